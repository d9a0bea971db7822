/-! TREES of ApartGames: by program (wip/whole/gen_trees.py) -/
set_option maxRecDepth 20000 in
set_option maxHeartbeats 1000000 in
theorem T_Ap_feed_0 {d : Nat} {kd : ZK} {m : ZM} {q : Int → ZM → Prop} {v0 v1 v2 v3 v4 v5 : Int} (h : (zobj kd v0 7 ∧ (zobj kd (m v0 0) 6 ∧ ∃ q1, CtI d M_Tape_hasRoomForFive [(2, m v0 0)] kd m q1 ∧ ∀ x2 m3, q1 x2 m3 → ((x2 ≠ 0 → (zobj kd v0 7 ∧ (zobj kd (m3 v0 0) 6 ∧ ∃ q4, CtV d M_Tape_addNumber [(2, m3 v0 0), (0, v1)] kd m3 q4 ∧ ∀ m6, q4 m6 → (zobj kd v0 7 ∧ (zobj kd (m6 v0 0) 6 ∧ ∃ q7, CtV d M_Tape_addNumber [(2, m6 v0 0), (0, v2)] kd m6 q7 ∧ ∀ m9, q7 m9 → (zobj kd v0 7 ∧ (zobj kd (m9 v0 0) 6 ∧ ∃ q10, CtV d M_Tape_addNumber [(2, m9 v0 0), (0, v3)] kd m9 q10 ∧ ∀ m12, q10 m12 → (zobj kd v0 7 ∧ (zobj kd (m12 v0 0) 6 ∧ ∃ q13, CtV d M_Tape_addNumber [(2, m12 v0 0), (0, v4)] kd m12 q13 ∧ ∀ m15, q13 m15 → (zobj kd v0 7 ∧ (zobj kd (m15 v0 0) 6 ∧ ∃ q16, CtV d M_Tape_addNumber [(2, m15 v0 0), (0, v5)] kd m15 q16 ∧ ∀ m18, q16 m18 → (zobj kd v0 7 ∧ zobj kd (m18 v0 0) 6 ∧ q (m18 (m18 v0 0) 1) m18)))))))))))) ∧ (¬ x2 ≠ 0 → q (-1) m3))))) : Ev (d + 1) M_Ap_feed 0 0 0 [(2, v0), (0, v1), (0, v2), (0, v3), (0, v4), (0, v5)] [] kd m (zqI kd q) := by
  obtain ⟨o1, h⟩ := h
  refine EvX.blk (pc' := 4) [(.aload_n 0, 0, 0), (.getfield 10, 7, 0)] (by decide +kernel) ⟨g_Ap_10, trivial⟩ ⟨o1, ?_⟩
  show Ev (d + 1) M_Ap_feed 0 0 4 [(2, v0), (0, v1), (0, v2), (0, v3), (0, v4), (0, v5)] [(2, m v0 0)] kd m (zqI kd q)
  obtain ⟨ov, h⟩ := h
  obtain ⟨q1, hq, h⟩ := h
  refine EvX.callV (c := 6) (mc := 0) (ms := 0) (as := []) (st := []) (by decide +kernel) l_Ap_69 k_Tape_hasRoomForFive v_Tape_hasRoomForFive a_Tape_hasRoomForFive (by decide) (Nat.le_of_ble_eq_true rfl) rfl ov hq (fun r kd1 m3 hr => ?_)
  obtain ⟨x2, rfl, hk, hr⟩ := hr
  subst kd1
  have h := h x2 m3 hr
  show Ev (d + 1) M_Ap_feed 0 0 7 [(2, v0), (0, v1), (0, v2), (0, v3), (0, v4), (0, v5)] [(0, x2)] kd m3 (zqI kd q)
  refine EvX.if_ne (off := 5) (tgt := 12) (by decide +kernel) (by decide) (fun hc => ?_) (fun hc => ?_)
  · have h := h.1 hc
    obtain ⟨o1, h⟩ := h
    refine EvX.blk (pc' := 17) [(.aload_n 0, 0, 0), (.getfield 10, 7, 0), (.iload_n 1, 0, 0)] (by decide +kernel) ⟨g_Ap_10, trivial⟩ ⟨o1, ?_⟩
    show Ev (d + 1) M_Ap_feed 0 0 17 [(2, v0), (0, v1), (0, v2), (0, v3), (0, v4), (0, v5)] [(0, v1), (2, m3 v0 0)] kd m3 (zqI kd q)
    obtain ⟨ov, h⟩ := h
    obtain ⟨q4, hq, h⟩ := h
    refine EvX.callV (c := 6) (mc := 0) (ms := 0) (as := [(0, v1)]) (st := []) (by decide +kernel) l_Ap_73 k_Tape_addNumber v_Tape_addNumber a_Tape_addNumber (by decide) (Nat.le_of_ble_eq_true rfl) rfl ov hq (fun r kd1 m6 hr => ?_)
    obtain ⟨rfl, hk, hr⟩ := hr
    subst kd1
    have h := h m6 hr
    show Ev (d + 1) M_Ap_feed 0 0 20 [(2, v0), (0, v1), (0, v2), (0, v3), (0, v4), (0, v5)] [] kd m6 (zqI kd q)
    obtain ⟨o1, h⟩ := h
    refine EvX.blk (pc' := 25) [(.aload_n 0, 0, 0), (.getfield 10, 7, 0), (.iload_n 2, 0, 0)] (by decide +kernel) ⟨g_Ap_10, trivial⟩ ⟨o1, ?_⟩
    show Ev (d + 1) M_Ap_feed 0 0 25 [(2, v0), (0, v1), (0, v2), (0, v3), (0, v4), (0, v5)] [(0, v2), (2, m6 v0 0)] kd m6 (zqI kd q)
    obtain ⟨ov, h⟩ := h
    obtain ⟨q7, hq, h⟩ := h
    refine EvX.callV (c := 6) (mc := 0) (ms := 0) (as := [(0, v2)]) (st := []) (by decide +kernel) l_Ap_73 k_Tape_addNumber v_Tape_addNumber a_Tape_addNumber (by decide) (Nat.le_of_ble_eq_true rfl) rfl ov hq (fun r kd1 m9 hr => ?_)
    obtain ⟨rfl, hk, hr⟩ := hr
    subst kd1
    have h := h m9 hr
    show Ev (d + 1) M_Ap_feed 0 0 28 [(2, v0), (0, v1), (0, v2), (0, v3), (0, v4), (0, v5)] [] kd m9 (zqI kd q)
    obtain ⟨o1, h⟩ := h
    refine EvX.blk (pc' := 33) [(.aload_n 0, 0, 0), (.getfield 10, 7, 0), (.iload_n 3, 0, 0)] (by decide +kernel) ⟨g_Ap_10, trivial⟩ ⟨o1, ?_⟩
    show Ev (d + 1) M_Ap_feed 0 0 33 [(2, v0), (0, v1), (0, v2), (0, v3), (0, v4), (0, v5)] [(0, v3), (2, m9 v0 0)] kd m9 (zqI kd q)
    obtain ⟨ov, h⟩ := h
    obtain ⟨q10, hq, h⟩ := h
    refine EvX.callV (c := 6) (mc := 0) (ms := 0) (as := [(0, v3)]) (st := []) (by decide +kernel) l_Ap_73 k_Tape_addNumber v_Tape_addNumber a_Tape_addNumber (by decide) (Nat.le_of_ble_eq_true rfl) rfl ov hq (fun r kd1 m12 hr => ?_)
    obtain ⟨rfl, hk, hr⟩ := hr
    subst kd1
    have h := h m12 hr
    show Ev (d + 1) M_Ap_feed 0 0 36 [(2, v0), (0, v1), (0, v2), (0, v3), (0, v4), (0, v5)] [] kd m12 (zqI kd q)
    obtain ⟨o1, h⟩ := h
    refine EvX.blk (pc' := 42) [(.aload_n 0, 0, 0), (.getfield 10, 7, 0), (.iload 4, 0, 0)] (by decide +kernel) ⟨g_Ap_10, trivial⟩ ⟨o1, ?_⟩
    show Ev (d + 1) M_Ap_feed 0 0 42 [(2, v0), (0, v1), (0, v2), (0, v3), (0, v4), (0, v5)] [(0, v4), (2, m12 v0 0)] kd m12 (zqI kd q)
    obtain ⟨ov, h⟩ := h
    obtain ⟨q13, hq, h⟩ := h
    refine EvX.callV (c := 6) (mc := 0) (ms := 0) (as := [(0, v4)]) (st := []) (by decide +kernel) l_Ap_73 k_Tape_addNumber v_Tape_addNumber a_Tape_addNumber (by decide) (Nat.le_of_ble_eq_true rfl) rfl ov hq (fun r kd1 m15 hr => ?_)
    obtain ⟨rfl, hk, hr⟩ := hr
    subst kd1
    have h := h m15 hr
    show Ev (d + 1) M_Ap_feed 0 0 45 [(2, v0), (0, v1), (0, v2), (0, v3), (0, v4), (0, v5)] [] kd m15 (zqI kd q)
    obtain ⟨o1, h⟩ := h
    refine EvX.blk (pc' := 51) [(.aload_n 0, 0, 0), (.getfield 10, 7, 0), (.iload 5, 0, 0)] (by decide +kernel) ⟨g_Ap_10, trivial⟩ ⟨o1, ?_⟩
    show Ev (d + 1) M_Ap_feed 0 0 51 [(2, v0), (0, v1), (0, v2), (0, v3), (0, v4), (0, v5)] [(0, v5), (2, m15 v0 0)] kd m15 (zqI kd q)
    obtain ⟨ov, h⟩ := h
    obtain ⟨q16, hq, h⟩ := h
    refine EvX.callV (c := 6) (mc := 0) (ms := 0) (as := [(0, v5)]) (st := []) (by decide +kernel) l_Ap_73 k_Tape_addNumber v_Tape_addNumber a_Tape_addNumber (by decide) (Nat.le_of_ble_eq_true rfl) rfl ov hq (fun r kd1 m18 hr => ?_)
    obtain ⟨rfl, hk, hr⟩ := hr
    subst kd1
    have h := h m18 hr
    show Ev (d + 1) M_Ap_feed 0 0 54 [(2, v0), (0, v1), (0, v2), (0, v3), (0, v4), (0, v5)] [] kd m18 (zqI kd q)
    obtain ⟨o1, o2, h⟩ := h
    refine EvX.blk (pc' := 61) [(.aload_n 0, 0, 0), (.getfield 10, 7, 0), (.getfield 77, 6, 1)] (by decide +kernel) ⟨g_Ap_10, g_Ap_77, trivial⟩ ⟨o1, o2, ?_⟩
    show Ev (d + 1) M_Ap_feed 0 0 61 [(2, v0), (0, v1), (0, v2), (0, v3), (0, v4), (0, v5)] [(0, m18 (m18 v0 0) 1)] kd m18 (zqI kd q)
    exact EvX.ret (r := (0, m18 (m18 v0 0) 1)) (by decide +kernel) rfl ⟨_, rfl, rfl, h⟩
  · have h := h.2 hc
    refine EvX.blk (pc' := 11) [(.iconst (-1), 0, 0)] (by decide +kernel) trivial ?_
    show Ev (d + 1) M_Ap_feed 0 0 11 [(2, v0), (0, v1), (0, v2), (0, v3), (0, v4), (0, v5)] [(0, (-1))] kd m3 (zqI kd q)
    exact EvX.ret (r := (0, (-1))) (by decide +kernel) rfl ⟨_, rfl, rfl, h⟩
theorem S_Ap_feed {d : Nat} {kd : ZK} {m : ZM} {q : Int → ZM → Prop} {v0 v1 v2 v3 v4 v5 : Int} (h : (zobj kd v0 7 ∧ (zobj kd (m v0 0) 6 ∧ ∃ q1, CtI d M_Tape_hasRoomForFive [(2, m v0 0)] kd m q1 ∧ ∀ x2 m3, q1 x2 m3 → ((x2 ≠ 0 → (zobj kd v0 7 ∧ (zobj kd (m3 v0 0) 6 ∧ ∃ q4, CtV d M_Tape_addNumber [(2, m3 v0 0), (0, v1)] kd m3 q4 ∧ ∀ m6, q4 m6 → (zobj kd v0 7 ∧ (zobj kd (m6 v0 0) 6 ∧ ∃ q7, CtV d M_Tape_addNumber [(2, m6 v0 0), (0, v2)] kd m6 q7 ∧ ∀ m9, q7 m9 → (zobj kd v0 7 ∧ (zobj kd (m9 v0 0) 6 ∧ ∃ q10, CtV d M_Tape_addNumber [(2, m9 v0 0), (0, v3)] kd m9 q10 ∧ ∀ m12, q10 m12 → (zobj kd v0 7 ∧ (zobj kd (m12 v0 0) 6 ∧ ∃ q13, CtV d M_Tape_addNumber [(2, m12 v0 0), (0, v4)] kd m12 q13 ∧ ∀ m15, q13 m15 → (zobj kd v0 7 ∧ (zobj kd (m15 v0 0) 6 ∧ ∃ q16, CtV d M_Tape_addNumber [(2, m15 v0 0), (0, v5)] kd m15 q16 ∧ ∀ m18, q16 m18 → (zobj kd v0 7 ∧ zobj kd (m18 v0 0) 6 ∧ q (m18 (m18 v0 0) 1) m18)))))))))))) ∧ (¬ x2 ≠ 0 → q (-1) m3))))) : CtI (d + 1) M_Ap_feed [(2, v0), (0, v1), (0, v2), (0, v3), (0, v4), (0, v5)] kd m q :=
  Ct.start k_Ap_feed (Nat.le_of_ble_eq_true rfl) ⟨1, Or.inr (Or.inl ⟨rfl, rfl⟩)⟩ (T_Ap_feed_0 h)
set_option maxRecDepth 20000 in
set_option maxHeartbeats 1000000 in
theorem T_Ap_end_0 {d : Nat} {kd : ZK} {m : ZM} {q : Int → ZM → Prop} {v0 v1 : Int} (h : ((v1 < 0 → q (-1) m) ∧ (¬ v1 < 0 → (zobj kd v0 7 ∧ zobj kd (m v0 0) 6 ∧ ((v1 ≤ (m (m v0 0) 1) → (zobj kd v0 7 ∧ zobj kd (m v0 0) 6 ∧ q v1 (zup m (m v0 0) 1 v1))) ∧ (¬ v1 ≤ (m (m v0 0) 1) → q (-1) m)))))) : Ev (d + 1) M_Ap_end 0 0 0 [(2, v0), (0, v1)] [] kd m (zqI kd q) := by
  refine EvX.blk (pc' := 1) [(.iload_n 1, 0, 0)] (by decide +kernel) trivial ?_
  show Ev (d + 1) M_Ap_end 0 0 1 [(2, v0), (0, v1)] [(0, v1)] kd m (zqI kd q)
  refine EvX.if_lt (off := 14) (tgt := 15) (by decide +kernel) (by decide) (fun hc => ?_) (fun hc => ?_)
  · have h := h.1 hc
    refine EvX.blk (pc' := 16) [(.iconst (-1), 0, 0)] (by decide +kernel) trivial ?_
    show Ev (d + 1) M_Ap_end 0 0 16 [(2, v0), (0, v1)] [(0, (-1))] kd m (zqI kd q)
    exact EvX.ret (r := (0, (-1))) (by decide +kernel) rfl ⟨_, rfl, rfl, h⟩
  · have h := h.2 hc
    obtain ⟨o1, o2, h⟩ := h
    refine EvX.blk (pc' := 12) [(.iload_n 1, 0, 0), (.aload_n 0, 0, 0), (.getfield 10, 7, 0), (.getfield 77, 6, 1)] (by decide +kernel) ⟨g_Ap_10, g_Ap_77, trivial⟩ ⟨o1, o2, ?_⟩
    show Ev (d + 1) M_Ap_end 0 0 12 [(2, v0), (0, v1)] [(0, m (m v0 0) 1), (0, v1)] kd m (zqI kd q)
    refine EvX.icmp_le (off := 5) (tgt := 17) (by decide +kernel) (by decide) (fun hc => ?_) (fun hc => ?_)
    · have h := h.1 hc
      obtain ⟨o1, o2, h⟩ := h
      refine EvX.blk (pc' := 26) [(.aload_n 0, 0, 0), (.getfield 10, 7, 0), (.iload_n 1, 0, 0), (.putfield 77, 6, 1), (.iload_n 1, 0, 0)] (by decide +kernel) ⟨g_Ap_10, ⟨g_Ap_77, p_Ap_77⟩, trivial⟩ ⟨o1, rfl, o2, ?_⟩
      show Ev (d + 1) M_Ap_end 0 0 26 [(2, v0), (0, v1)] [(0, v1)] kd (zup m (m v0 0) 1 v1) (zqI kd q)
      exact EvX.ret (r := (0, v1)) (by decide +kernel) rfl ⟨_, rfl, rfl, h⟩
    · have h := h.2 hc
      refine EvX.blk (pc' := 16) [(.iconst (-1), 0, 0)] (by decide +kernel) trivial ?_
      show Ev (d + 1) M_Ap_end 0 0 16 [(2, v0), (0, v1)] [(0, (-1))] kd m (zqI kd q)
      exact EvX.ret (r := (0, (-1))) (by decide +kernel) rfl ⟨_, rfl, rfl, h⟩
theorem S_Ap_end {d : Nat} {kd : ZK} {m : ZM} {q : Int → ZM → Prop} {v0 v1 : Int} (h : ((v1 < 0 → q (-1) m) ∧ (¬ v1 < 0 → (zobj kd v0 7 ∧ zobj kd (m v0 0) 6 ∧ ((v1 ≤ (m (m v0 0) 1) → (zobj kd v0 7 ∧ zobj kd (m v0 0) 6 ∧ q v1 (zup m (m v0 0) 1 v1))) ∧ (¬ v1 ≤ (m (m v0 0) 1) → q (-1) m)))))) : CtI (d + 1) M_Ap_end [(2, v0), (0, v1)] kd m q :=
  Ct.start k_Ap_end (Nat.le_of_ble_eq_true rfl) ⟨1, Or.inr (Or.inl ⟨rfl, rfl⟩)⟩ (T_Ap_end_0 h)
set_option maxRecDepth 20000 in
set_option maxHeartbeats 1000000 in
theorem T_Ap_tell_0 {d : Nat} {kd : ZK} {m : ZM} {q : Int → ZM → Prop} {v0 : Int} (h : (zobj kd v0 7 ∧ zobj kd v0 7 ∧ (zobj kd (m v0 0) 6 ∧ ∃ q1, CtI d M_Tape_readInto [(2, m v0 0), (2, m v0 9)] kd m q1 ∧ ∀ x2 m3, q1 x2 m3 → (zobj kd v0 7 ∧ zobj kd (m3 v0 0) 6 ∧ ((x2 = 0 → (zobj kd v0 7 ∧ ∃ q4, CtV d M_Ap_takeSpare [(2, v0)] kd (zup m3 (m3 v0 0) 1 0) q4 ∧ ∀ m6, q4 m6 → (zobj kd v0 7 ∧ (zobj kd (m6 v0 1) 2 ∧ ∃ q7, CtV d M_Past_forget [(2, m6 v0 1)] kd m6 q7 ∧ ∀ m9, q7 m9 → (zobj kd v0 7 ∧ zobj kd (m9 v0 8) 1 ∧ q (m9 (m9 v0 8) 0) m9))))) ∧ (¬ x2 = 0 → q (iw ((-2) - x2)) (zup m3 (m3 v0 0) 1 0))))))) : Ev (d + 1) M_Ap_tell 0 0 0 [(2, v0), zJ] [] kd m (zqI kd q) := by
  obtain ⟨o1, o2, h⟩ := h
  refine EvX.blk (pc' := 8) [(.aload_n 0, 0, 0), (.getfield 10, 7, 0), (.aload_n 0, 0, 0), (.getfield 66, 7, 9)] (by decide +kernel) ⟨g_Ap_10, g_Ap_66, trivial⟩ ⟨o1, o2, ?_⟩
  show Ev (d + 1) M_Ap_tell 0 0 8 [(2, v0), zJ] [(2, m v0 9), (2, m v0 0)] kd m (zqI kd q)
  obtain ⟨ov, h⟩ := h
  obtain ⟨q1, hq, h⟩ := h
  refine EvX.callV (c := 6) (mc := 0) (ms := 0) (as := [(2, m v0 9)]) (st := []) (by decide +kernel) l_Ap_80 k_Tape_readInto v_Tape_readInto a_Tape_readInto (by decide) (Nat.le_of_ble_eq_true rfl) rfl ov hq (fun r kd1 m3 hr => ?_)
  obtain ⟨x2, rfl, hk, hr⟩ := hr
  subst kd1
  have h := h x2 m3 hr
  show Ev (d + 1) M_Ap_tell 0 0 11 [(2, v0), zJ] [(0, x2)] kd m3 (zqI kd q)
  obtain ⟨o1, o2, h⟩ := h
  refine EvX.blk (pc' := 21) [(.istore_n 1, 0, 0), (.aload_n 0, 0, 0), (.getfield 10, 7, 0), (.iconst 0, 0, 0), (.putfield 77, 6, 1), (.iload_n 1, 0, 0)] (by decide +kernel) ⟨g_Ap_10, ⟨g_Ap_77, p_Ap_77⟩, trivial⟩ ⟨o1, rfl, o2, ?_⟩
  show Ev (d + 1) M_Ap_tell 0 0 21 [(2, v0), (0, x2)] [(0, x2)] kd (zup m3 (m3 v0 0) 1 0) (zqI kd q)
  refine EvX.if_eq (off := 8) (tgt := 29) (by decide +kernel) (by decide) (fun hc => ?_) (fun hc => ?_)
  · have h := h.1 hc
    refine EvX.blk (pc' := 30) [(.aload_n 0, 0, 0)] (by decide +kernel) trivial ?_
    show Ev (d + 1) M_Ap_tell 0 0 30 [(2, v0), (0, x2)] [(2, v0)] kd (zup m3 (m3 v0 0) 1 0) (zqI kd q)
    obtain ⟨ov, h⟩ := h
    obtain ⟨q4, hq, h⟩ := h
    refine EvX.callV (c := 7) (mc := 0) (ms := 0) (as := []) (st := []) (by decide +kernel) l_Ap_84 k_Ap_takeSpare v_Ap_takeSpare a_Ap_takeSpare (by decide) (Nat.le_of_ble_eq_true rfl) rfl ov hq (fun r kd1 m6 hr => ?_)
    obtain ⟨rfl, hk, hr⟩ := hr
    subst kd1
    have h := h m6 hr
    show Ev (d + 1) M_Ap_tell 0 0 33 [(2, v0), (0, x2)] [] kd m6 (zqI kd q)
    obtain ⟨o1, h⟩ := h
    refine EvX.blk (pc' := 37) [(.aload_n 0, 0, 0), (.getfield 19, 7, 1)] (by decide +kernel) ⟨g_Ap_19, trivial⟩ ⟨o1, ?_⟩
    show Ev (d + 1) M_Ap_tell 0 0 37 [(2, v0), (0, x2)] [(2, m6 v0 1)] kd m6 (zqI kd q)
    obtain ⟨ov, h⟩ := h
    obtain ⟨q7, hq, h⟩ := h
    refine EvX.callV (c := 2) (mc := 0) (ms := 0) (as := []) (st := []) (by decide +kernel) l_Ap_87 k_Past_forget v_Past_forget a_Past_forget (by decide) (Nat.le_of_ble_eq_true rfl) rfl ov hq (fun r kd1 m9 hr => ?_)
    obtain ⟨rfl, hk, hr⟩ := hr
    subst kd1
    have h := h m9 hr
    show Ev (d + 1) M_Ap_tell 0 0 40 [(2, v0), (0, x2)] [] kd m9 (zqI kd q)
    obtain ⟨o1, o2, h⟩ := h
    refine EvX.blk (pc' := 47) [(.aload_n 0, 0, 0), (.getfield 62, 7, 8), (.getfield 90, 1, 0)] (by decide +kernel) ⟨g_Ap_62, g_Ap_90, trivial⟩ ⟨o1, o2, ?_⟩
    show Ev (d + 1) M_Ap_tell 0 0 47 [(2, v0), (0, x2)] [(0, m9 (m9 v0 8) 0)] kd m9 (zqI kd q)
    exact EvX.ret (r := (0, m9 (m9 v0 8) 0)) (by decide +kernel) rfl ⟨_, rfl, rfl, h⟩
  · have h := h.2 hc
    refine EvX.blk (pc' := 28) [(.bipush (-2), 0, 0), (.iload_n 1, 0, 0), (.isub, 0, 0)] (by decide +kernel) trivial ?_
    show Ev (d + 1) M_Ap_tell 0 0 28 [(2, v0), (0, x2)] [(0, iw ((-2) - x2))] kd (zup m3 (m3 v0 0) 1 0) (zqI kd q)
    exact EvX.ret (r := (0, iw ((-2) - x2))) (by decide +kernel) rfl ⟨_, rfl, rfl, h⟩
theorem S_Ap_tell {d : Nat} {kd : ZK} {m : ZM} {q : Int → ZM → Prop} {v0 : Int} (h : (zobj kd v0 7 ∧ zobj kd v0 7 ∧ (zobj kd (m v0 0) 6 ∧ ∃ q1, CtI d M_Tape_readInto [(2, m v0 0), (2, m v0 9)] kd m q1 ∧ ∀ x2 m3, q1 x2 m3 → (zobj kd v0 7 ∧ zobj kd (m3 v0 0) 6 ∧ ((x2 = 0 → (zobj kd v0 7 ∧ ∃ q4, CtV d M_Ap_takeSpare [(2, v0)] kd (zup m3 (m3 v0 0) 1 0) q4 ∧ ∀ m6, q4 m6 → (zobj kd v0 7 ∧ (zobj kd (m6 v0 1) 2 ∧ ∃ q7, CtV d M_Past_forget [(2, m6 v0 1)] kd m6 q7 ∧ ∀ m9, q7 m9 → (zobj kd v0 7 ∧ zobj kd (m9 v0 8) 1 ∧ q (m9 (m9 v0 8) 0) m9))))) ∧ (¬ x2 = 0 → q (iw ((-2) - x2)) (zup m3 (m3 v0 0) 1 0))))))) : CtI (d + 1) M_Ap_tell [(2, v0)] kd m q :=
  Ct.start k_Ap_tell (Nat.le_of_ble_eq_true rfl) ⟨1, Or.inr (Or.inl ⟨rfl, rfl⟩)⟩ (T_Ap_tell_0 h)
set_option maxRecDepth 20000 in
set_option maxHeartbeats 1000000 in
theorem T_Ap_weigh_0 {d : Nat} {kd : ZK} {m : ZM} {q : Int → ZM → Prop} {v0 v1 v2 v3 : Int} (h : (zobj kd v0 7 ∧ (zobj kd (m v0 8) 1 ∧ ∃ q1, CtI d M_Game_hasCell [(2, m v0 8), (0, v1), (0, v2)] kd m q1 ∧ ∀ x2 m3, q1 x2 m3 → ((x2 = 0 → q (-1) m3) ∧ (¬ x2 = 0 → ((v3 < 0 → q (-1) m3) ∧ (¬ v3 < 0 → ((v3 ≤ 9 → (∃ q4, CtI d M_Ap_cellOf [(0, 0), (0, v1), (0, v2)] kd m3 q4 ∧ ∀ x5 m6, q4 x5 m6 → (zobj kd v0 7 ∧ zobj kd (m6 v0 8) 1 ∧ zIn kd (m6 (m6 v0 8) 4) 0 x5 ∧ (((m6 (m6 (m6 v0 8) 4) x5) ≠ v3 → (zobj kd v0 7 ∧ zobj kd v0 7 ∧ (zobj kd (m6 v0 1) 2 ∧ ∃ q7, CtV d M_Past_remember [(2, m6 v0 1), (2, m6 v0 8)] kd m6 q7 ∧ ∀ m9, q7 m9 → (zobj kd v0 7 ∧ zobj kd (m9 v0 8) 1 ∧ zIn kd (m9 (m9 v0 8) 4) 0 x5 ∧ q (m6 (m6 (m6 v0 8) 4) x5) (zup m9 (m9 (m9 v0 8) 4) x5 v3))))) ∧ (¬ (m6 (m6 (m6 v0 8) 4) x5) ≠ v3 → q (-2) m6))))) ∧ (¬ v3 ≤ 9 → q (-1) m3))))))))) : Ev (d + 1) M_Ap_weigh 0 0 0 [(2, v0), (0, v1), (0, v2), (0, v3), zJ, zJ] [] kd m (zqI kd q) := by
  obtain ⟨o1, h⟩ := h
  refine EvX.blk (pc' := 6) [(.aload_n 0, 0, 0), (.getfield 62, 7, 8), (.iload_n 1, 0, 0), (.iload_n 2, 0, 0)] (by decide +kernel) ⟨g_Ap_62, trivial⟩ ⟨o1, ?_⟩
  show Ev (d + 1) M_Ap_weigh 0 0 6 [(2, v0), (0, v1), (0, v2), (0, v3), zJ, zJ] [(0, v2), (0, v1), (2, m v0 8)] kd m (zqI kd q)
  obtain ⟨ov, h⟩ := h
  obtain ⟨q1, hq, h⟩ := h
  refine EvX.callV (c := 1) (mc := 0) (ms := 0) (as := [(0, v1), (0, v2)]) (st := []) (by decide +kernel) l_Ap_93 k_Game_hasCell v_Game_hasCell a_Game_hasCell (by decide) (Nat.le_of_ble_eq_true rfl) rfl ov hq (fun r kd1 m3 hr => ?_)
  obtain ⟨x2, rfl, hk, hr⟩ := hr
  subst kd1
  have h := h x2 m3 hr
  show Ev (d + 1) M_Ap_weigh 0 0 9 [(2, v0), (0, v1), (0, v2), (0, v3), zJ, zJ] [(0, x2)] kd m3 (zqI kd q)
  refine EvX.if_eq (off := 13) (tgt := 22) (by decide +kernel) (by decide) (fun hc => ?_) (fun hc => ?_)
  · have h := h.1 hc
    refine EvX.blk (pc' := 23) [(.iconst (-1), 0, 0)] (by decide +kernel) trivial ?_
    show Ev (d + 1) M_Ap_weigh 0 0 23 [(2, v0), (0, v1), (0, v2), (0, v3), zJ, zJ] [(0, (-1))] kd m3 (zqI kd q)
    exact EvX.ret (r := (0, (-1))) (by decide +kernel) rfl ⟨_, rfl, rfl, h⟩
  · have h := h.2 hc
    refine EvX.blk (pc' := 13) [(.iload_n 3, 0, 0)] (by decide +kernel) trivial ?_
    show Ev (d + 1) M_Ap_weigh 0 0 13 [(2, v0), (0, v1), (0, v2), (0, v3), zJ, zJ] [(0, v3)] kd m3 (zqI kd q)
    refine EvX.if_lt (off := 9) (tgt := 22) (by decide +kernel) (by decide) (fun hc => ?_) (fun hc => ?_)
    · have h := h.1 hc
      refine EvX.blk (pc' := 23) [(.iconst (-1), 0, 0)] (by decide +kernel) trivial ?_
      show Ev (d + 1) M_Ap_weigh 0 0 23 [(2, v0), (0, v1), (0, v2), (0, v3), zJ, zJ] [(0, (-1))] kd m3 (zqI kd q)
      exact EvX.ret (r := (0, (-1))) (by decide +kernel) rfl ⟨_, rfl, rfl, h⟩
    · have h := h.2 hc
      refine EvX.blk (pc' := 19) [(.iload_n 3, 0, 0), (.bipush 9, 0, 0)] (by decide +kernel) trivial ?_
      show Ev (d + 1) M_Ap_weigh 0 0 19 [(2, v0), (0, v1), (0, v2), (0, v3), zJ, zJ] [(0, 9), (0, v3)] kd m3 (zqI kd q)
      refine EvX.icmp_le (off := 5) (tgt := 24) (by decide +kernel) (by decide) (fun hc => ?_) (fun hc => ?_)
      · have h := h.1 hc
        refine EvX.blk (pc' := 27) [(.iconst 0, 0, 0), (.iload_n 1, 0, 0), (.iload_n 2, 0, 0)] (by decide +kernel) trivial ?_
        show Ev (d + 1) M_Ap_weigh 0 0 27 [(2, v0), (0, v1), (0, v2), (0, v3), zJ, zJ] [(0, v2), (0, v1), (0, 0)] kd m3 (zqI kd q)
        obtain ⟨q4, hq, h⟩ := h
        refine EvX.callS (mc := 0) (ms := 0) (as := [(0, 0), (0, v1), (0, v2)]) (st := []) (by decide +kernel) l_Ap_97 k_Ap_cellOf s_Ap_cellOf a_Ap_cellOf (by decide) (Nat.le_of_ble_eq_true rfl) hq (fun r kd1 m6 hr => ?_)
        obtain ⟨x5, rfl, hk, hr⟩ := hr
        subst kd1
        have h := h x5 m6 hr
        show Ev (d + 1) M_Ap_weigh 0 0 30 [(2, v0), (0, v1), (0, v2), (0, v3), zJ, zJ] [(0, x5)] kd m6 (zqI kd q)
        obtain ⟨o1, o2, o3, h⟩ := h
        refine EvX.blk (pc' := 47) [(.istore 4, 0, 0), (.aload_n 0, 0, 0), (.getfield 62, 7, 8), (.getfield 101, 1, 4), (.iload 4, 0, 0), (.iaload, 0, 0), (.istore 5, 0, 0), (.iload 5, 0, 0), (.iload_n 3, 0, 0)] (by decide +kernel) ⟨g_Ap_62, g_Ap_101, trivial⟩ ⟨o1, o2, o3, ?_⟩
        show Ev (d + 1) M_Ap_weigh 0 0 47 [(2, v0), (0, v1), (0, v2), (0, v3), (0, x5), (0, m6 (m6 (m6 v0 8) 4) x5)] [(0, v3), (0, m6 (m6 (m6 v0 8) 4) x5)] kd m6 (zqI kd q)
        refine EvX.icmp_ne (off := 6) (tgt := 53) (by decide +kernel) (by decide) (fun hc => ?_) (fun hc => ?_)
        · have h := h.1 hc
          obtain ⟨o1, o2, h⟩ := h
          refine EvX.blk (pc' := 61) [(.aload_n 0, 0, 0), (.getfield 19, 7, 1), (.aload_n 0, 0, 0), (.getfield 62, 7, 8)] (by decide +kernel) ⟨g_Ap_19, g_Ap_62, trivial⟩ ⟨o1, o2, ?_⟩
          show Ev (d + 1) M_Ap_weigh 0 0 61 [(2, v0), (0, v1), (0, v2), (0, v3), (0, x5), (0, m6 (m6 (m6 v0 8) 4) x5)] [(2, m6 v0 8), (2, m6 v0 1)] kd m6 (zqI kd q)
          obtain ⟨ov, h⟩ := h
          obtain ⟨q7, hq, h⟩ := h
          refine EvX.callV (c := 2) (mc := 0) (ms := 0) (as := [(2, m6 v0 8)]) (st := []) (by decide +kernel) l_Ap_105 k_Past_remember v_Past_remember a_Past_remember (by decide) (Nat.le_of_ble_eq_true rfl) rfl ov hq (fun r kd1 m9 hr => ?_)
          obtain ⟨rfl, hk, hr⟩ := hr
          subst kd1
          have h := h m9 hr
          show Ev (d + 1) M_Ap_weigh 0 0 64 [(2, v0), (0, v1), (0, v2), (0, v3), (0, x5), (0, m6 (m6 (m6 v0 8) 4) x5)] [] kd m9 (zqI kd q)
          obtain ⟨o1, o2, o3, h⟩ := h
          refine EvX.blk (pc' := 77) [(.aload_n 0, 0, 0), (.getfield 62, 7, 8), (.getfield 101, 1, 4), (.iload 4, 0, 0), (.iload_n 3, 0, 0), (.iastore, 0, 0), (.iload 5, 0, 0)] (by decide +kernel) ⟨g_Ap_62, g_Ap_101, trivial⟩ ⟨o1, o2, o3, ?_⟩
          show Ev (d + 1) M_Ap_weigh 0 0 77 [(2, v0), (0, v1), (0, v2), (0, v3), (0, x5), (0, m6 (m6 (m6 v0 8) 4) x5)] [(0, m6 (m6 (m6 v0 8) 4) x5)] kd (zup m9 (m9 (m9 v0 8) 4) x5 v3) (zqI kd q)
          exact EvX.ret (r := (0, m6 (m6 (m6 v0 8) 4) x5)) (by decide +kernel) rfl ⟨_, rfl, rfl, h⟩
        · have h := h.2 hc
          refine EvX.blk (pc' := 52) [(.bipush (-2), 0, 0)] (by decide +kernel) trivial ?_
          show Ev (d + 1) M_Ap_weigh 0 0 52 [(2, v0), (0, v1), (0, v2), (0, v3), (0, x5), (0, m6 (m6 (m6 v0 8) 4) x5)] [(0, (-2))] kd m6 (zqI kd q)
          exact EvX.ret (r := (0, (-2))) (by decide +kernel) rfl ⟨_, rfl, rfl, h⟩
      · have h := h.2 hc
        refine EvX.blk (pc' := 23) [(.iconst (-1), 0, 0)] (by decide +kernel) trivial ?_
        show Ev (d + 1) M_Ap_weigh 0 0 23 [(2, v0), (0, v1), (0, v2), (0, v3), zJ, zJ] [(0, (-1))] kd m3 (zqI kd q)
        exact EvX.ret (r := (0, (-1))) (by decide +kernel) rfl ⟨_, rfl, rfl, h⟩
theorem S_Ap_weigh {d : Nat} {kd : ZK} {m : ZM} {q : Int → ZM → Prop} {v0 v1 v2 v3 : Int} (h : (zobj kd v0 7 ∧ (zobj kd (m v0 8) 1 ∧ ∃ q1, CtI d M_Game_hasCell [(2, m v0 8), (0, v1), (0, v2)] kd m q1 ∧ ∀ x2 m3, q1 x2 m3 → ((x2 = 0 → q (-1) m3) ∧ (¬ x2 = 0 → ((v3 < 0 → q (-1) m3) ∧ (¬ v3 < 0 → ((v3 ≤ 9 → (∃ q4, CtI d M_Ap_cellOf [(0, 0), (0, v1), (0, v2)] kd m3 q4 ∧ ∀ x5 m6, q4 x5 m6 → (zobj kd v0 7 ∧ zobj kd (m6 v0 8) 1 ∧ zIn kd (m6 (m6 v0 8) 4) 0 x5 ∧ (((m6 (m6 (m6 v0 8) 4) x5) ≠ v3 → (zobj kd v0 7 ∧ zobj kd v0 7 ∧ (zobj kd (m6 v0 1) 2 ∧ ∃ q7, CtV d M_Past_remember [(2, m6 v0 1), (2, m6 v0 8)] kd m6 q7 ∧ ∀ m9, q7 m9 → (zobj kd v0 7 ∧ zobj kd (m9 v0 8) 1 ∧ zIn kd (m9 (m9 v0 8) 4) 0 x5 ∧ q (m6 (m6 (m6 v0 8) 4) x5) (zup m9 (m9 (m9 v0 8) 4) x5 v3))))) ∧ (¬ (m6 (m6 (m6 v0 8) 4) x5) ≠ v3 → q (-2) m6))))) ∧ (¬ v3 ≤ 9 → q (-1) m3))))))))) : CtI (d + 1) M_Ap_weigh [(2, v0), (0, v1), (0, v2), (0, v3)] kd m q :=
  Ct.start k_Ap_weigh (Nat.le_of_ble_eq_true rfl) ⟨1, Or.inr (Or.inl ⟨rfl, rfl⟩)⟩ (T_Ap_weigh_0 h)
set_option maxRecDepth 20000 in
set_option maxHeartbeats 1000000 in
theorem T_Ap_decide_0 {d : Nat} {kd : ZK} {m : ZM} {q : Int → ZM → Prop} {v0 v1 v2 v3 v4 : Int} (h : (zobj kd v0 7 ∧ (zobj kd (m v0 8) 1 ∧ ∃ q1, CtI d M_Game_hasSpot [(2, m v0 8), (0, v1), (0, v2), (0, v3), (0, v4)] kd m q1 ∧ ∀ x2 m3, q1 x2 m3 → ((x2 ≠ 0 → (zobj kd v0 7 ∧ zobj kd v0 7 ∧ (zobj kd (m3 v0 1) 2 ∧ ∃ q4, CtV d M_Past_remember [(2, m3 v0 1), (2, m3 v0 8)] kd m3 q4 ∧ ∀ m6, q4 m6 → (∃ q7, CtI d M_Ap_spotOf [(0, 0), (0, v1), (0, v2), (0, v3), (0, v4)] kd m6 q7 ∧ ∀ x8 m9, q7 x8 m9 → (zobj kd v0 7 ∧ zobj kd (m9 v0 8) 1 ∧ zobj kd v0 7 ∧ zobj kd (m9 v0 8) 1 ∧ zIn kd (m9 (m9 v0 8) 5) 0 x8 ∧ zIn kd (m9 (m9 v0 8) 5) 0 x8 ∧ zobj kd v0 7 ∧ zobj kd ((zup m9 (m9 (m9 v0 8) 5) x8 (iw (1 - (m9 (m9 (m9 v0 8) 5) x8)))) v0 8) 1 ∧ zIn kd ((zup m9 (m9 (m9 v0 8) 5) x8 (iw (1 - (m9 (m9 (m9 v0 8) 5) x8)))) ((zup m9 (m9 (m9 v0 8) 5) x8 (iw (1 - (m9 (m9 (m9 v0 8) 5) x8)))) v0 8) 5) 0 x8 ∧ q ((zup m9 (m9 (m9 v0 8) 5) x8 (iw (1 - (m9 (m9 (m9 v0 8) 5) x8)))) ((zup m9 (m9 (m9 v0 8) 5) x8 (iw (1 - (m9 (m9 (m9 v0 8) 5) x8)))) ((zup m9 (m9 (m9 v0 8) 5) x8 (iw (1 - (m9 (m9 (m9 v0 8) 5) x8)))) v0 8) 5) x8) (zup m9 (m9 (m9 v0 8) 5) x8 (iw (1 - (m9 (m9 (m9 v0 8) 5) x8))))))))) ∧ (¬ x2 ≠ 0 → q (-1) m3))))) : Ev (d + 1) M_Ap_decide 0 0 0 [(2, v0), (0, v1), (0, v2), (0, v3), (0, v4), zJ] [] kd m (zqI kd q) := by
  obtain ⟨o1, h⟩ := h
  refine EvX.blk (pc' := 9) [(.aload_n 0, 0, 0), (.getfield 62, 7, 8), (.iload_n 1, 0, 0), (.iload_n 2, 0, 0), (.iload_n 3, 0, 0), (.iload 4, 0, 0)] (by decide +kernel) ⟨g_Ap_62, trivial⟩ ⟨o1, ?_⟩
  show Ev (d + 1) M_Ap_decide 0 0 9 [(2, v0), (0, v1), (0, v2), (0, v3), (0, v4), zJ] [(0, v4), (0, v3), (0, v2), (0, v1), (2, m v0 8)] kd m (zqI kd q)
  obtain ⟨ov, h⟩ := h
  obtain ⟨q1, hq, h⟩ := h
  refine EvX.callV (c := 1) (mc := 0) (ms := 0) (as := [(0, v1), (0, v2), (0, v3), (0, v4)]) (st := []) (by decide +kernel) l_Ap_109 k_Game_hasSpot v_Game_hasSpot a_Game_hasSpot (by decide) (Nat.le_of_ble_eq_true rfl) rfl ov hq (fun r kd1 m3 hr => ?_)
  obtain ⟨x2, rfl, hk, hr⟩ := hr
  subst kd1
  have h := h x2 m3 hr
  show Ev (d + 1) M_Ap_decide 0 0 12 [(2, v0), (0, v1), (0, v2), (0, v3), (0, v4), zJ] [(0, x2)] kd m3 (zqI kd q)
  refine EvX.if_ne (off := 5) (tgt := 17) (by decide +kernel) (by decide) (fun hc => ?_) (fun hc => ?_)
  · have h := h.1 hc
    obtain ⟨o1, o2, h⟩ := h
    refine EvX.blk (pc' := 25) [(.aload_n 0, 0, 0), (.getfield 19, 7, 1), (.aload_n 0, 0, 0), (.getfield 62, 7, 8)] (by decide +kernel) ⟨g_Ap_19, g_Ap_62, trivial⟩ ⟨o1, o2, ?_⟩
    show Ev (d + 1) M_Ap_decide 0 0 25 [(2, v0), (0, v1), (0, v2), (0, v3), (0, v4), zJ] [(2, m3 v0 8), (2, m3 v0 1)] kd m3 (zqI kd q)
    obtain ⟨ov, h⟩ := h
    obtain ⟨q4, hq, h⟩ := h
    refine EvX.callV (c := 2) (mc := 0) (ms := 0) (as := [(2, m3 v0 8)]) (st := []) (by decide +kernel) l_Ap_105 k_Past_remember v_Past_remember a_Past_remember (by decide) (Nat.le_of_ble_eq_true rfl) rfl ov hq (fun r kd1 m6 hr => ?_)
    obtain ⟨rfl, hk, hr⟩ := hr
    subst kd1
    have h := h m6 hr
    show Ev (d + 1) M_Ap_decide 0 0 28 [(2, v0), (0, v1), (0, v2), (0, v3), (0, v4), zJ] [] kd m6 (zqI kd q)
    refine EvX.blk (pc' := 34) [(.iconst 0, 0, 0), (.iload_n 1, 0, 0), (.iload_n 2, 0, 0), (.iload_n 3, 0, 0), (.iload 4, 0, 0)] (by decide +kernel) trivial ?_
    show Ev (d + 1) M_Ap_decide 0 0 34 [(2, v0), (0, v1), (0, v2), (0, v3), (0, v4), zJ] [(0, v4), (0, v3), (0, v2), (0, v1), (0, 0)] kd m6 (zqI kd q)
    obtain ⟨q7, hq, h⟩ := h
    refine EvX.callS (mc := 0) (ms := 0) (as := [(0, 0), (0, v1), (0, v2), (0, v3), (0, v4)]) (st := []) (by decide +kernel) l_Ap_113 k_Ap_spotOf s_Ap_spotOf a_Ap_spotOf (by decide) (Nat.le_of_ble_eq_true rfl) hq (fun r kd1 m9 hr => ?_)
    obtain ⟨x8, rfl, hk, hr⟩ := hr
    subst kd1
    have h := h x8 m9 hr
    show Ev (d + 1) M_Ap_decide 0 0 37 [(2, v0), (0, v1), (0, v2), (0, v3), (0, v4), zJ] [(0, x8)] kd m9 (zqI kd q)
    obtain ⟨o1, o2, o3, o4, o5, o6, o7, o8, o9, h⟩ := h
    refine EvX.blk (pc' := 71) [(.istore 5, 0, 0), (.aload_n 0, 0, 0), (.getfield 62, 7, 8), (.getfield 117, 1, 5), (.iload 5, 0, 0), (.iconst 1, 0, 0), (.aload_n 0, 0, 0), (.getfield 62, 7, 8), (.getfield 117, 1, 5), (.iload 5, 0, 0), (.iaload, 0, 0), (.isub, 0, 0), (.iastore, 0, 0), (.aload_n 0, 0, 0), (.getfield 62, 7, 8), (.getfield 117, 1, 5), (.iload 5, 0, 0), (.iaload, 0, 0)] (by decide +kernel) ⟨g_Ap_62, g_Ap_117, g_Ap_62, g_Ap_117, g_Ap_62, g_Ap_117, trivial⟩ ⟨o1, o2, o3, o4, o5, o6, o7, o8, o9, ?_⟩
    show Ev (d + 1) M_Ap_decide 0 0 71 [(2, v0), (0, v1), (0, v2), (0, v3), (0, v4), (0, x8)] [(0, (zup m9 (m9 (m9 v0 8) 5) x8 (iw (1 - (m9 (m9 (m9 v0 8) 5) x8)))) ((zup m9 (m9 (m9 v0 8) 5) x8 (iw (1 - (m9 (m9 (m9 v0 8) 5) x8)))) ((zup m9 (m9 (m9 v0 8) 5) x8 (iw (1 - (m9 (m9 (m9 v0 8) 5) x8)))) v0 8) 5) x8)] kd (zup m9 (m9 (m9 v0 8) 5) x8 (iw (1 - (m9 (m9 (m9 v0 8) 5) x8)))) (zqI kd q)
    exact EvX.ret (r := (0, (zup m9 (m9 (m9 v0 8) 5) x8 (iw (1 - (m9 (m9 (m9 v0 8) 5) x8)))) ((zup m9 (m9 (m9 v0 8) 5) x8 (iw (1 - (m9 (m9 (m9 v0 8) 5) x8)))) ((zup m9 (m9 (m9 v0 8) 5) x8 (iw (1 - (m9 (m9 (m9 v0 8) 5) x8)))) v0 8) 5) x8)) (by decide +kernel) rfl ⟨_, rfl, rfl, h⟩
  · have h := h.2 hc
    refine EvX.blk (pc' := 16) [(.iconst (-1), 0, 0)] (by decide +kernel) trivial ?_
    show Ev (d + 1) M_Ap_decide 0 0 16 [(2, v0), (0, v1), (0, v2), (0, v3), (0, v4), zJ] [(0, (-1))] kd m3 (zqI kd q)
    exact EvX.ret (r := (0, (-1))) (by decide +kernel) rfl ⟨_, rfl, rfl, h⟩
theorem S_Ap_decide {d : Nat} {kd : ZK} {m : ZM} {q : Int → ZM → Prop} {v0 v1 v2 v3 v4 : Int} (h : (zobj kd v0 7 ∧ (zobj kd (m v0 8) 1 ∧ ∃ q1, CtI d M_Game_hasSpot [(2, m v0 8), (0, v1), (0, v2), (0, v3), (0, v4)] kd m q1 ∧ ∀ x2 m3, q1 x2 m3 → ((x2 ≠ 0 → (zobj kd v0 7 ∧ zobj kd v0 7 ∧ (zobj kd (m3 v0 1) 2 ∧ ∃ q4, CtV d M_Past_remember [(2, m3 v0 1), (2, m3 v0 8)] kd m3 q4 ∧ ∀ m6, q4 m6 → (∃ q7, CtI d M_Ap_spotOf [(0, 0), (0, v1), (0, v2), (0, v3), (0, v4)] kd m6 q7 ∧ ∀ x8 m9, q7 x8 m9 → (zobj kd v0 7 ∧ zobj kd (m9 v0 8) 1 ∧ zobj kd v0 7 ∧ zobj kd (m9 v0 8) 1 ∧ zIn kd (m9 (m9 v0 8) 5) 0 x8 ∧ zIn kd (m9 (m9 v0 8) 5) 0 x8 ∧ zobj kd v0 7 ∧ zobj kd ((zup m9 (m9 (m9 v0 8) 5) x8 (iw (1 - (m9 (m9 (m9 v0 8) 5) x8)))) v0 8) 1 ∧ zIn kd ((zup m9 (m9 (m9 v0 8) 5) x8 (iw (1 - (m9 (m9 (m9 v0 8) 5) x8)))) ((zup m9 (m9 (m9 v0 8) 5) x8 (iw (1 - (m9 (m9 (m9 v0 8) 5) x8)))) v0 8) 5) 0 x8 ∧ q ((zup m9 (m9 (m9 v0 8) 5) x8 (iw (1 - (m9 (m9 (m9 v0 8) 5) x8)))) ((zup m9 (m9 (m9 v0 8) 5) x8 (iw (1 - (m9 (m9 (m9 v0 8) 5) x8)))) ((zup m9 (m9 (m9 v0 8) 5) x8 (iw (1 - (m9 (m9 (m9 v0 8) 5) x8)))) v0 8) 5) x8) (zup m9 (m9 (m9 v0 8) 5) x8 (iw (1 - (m9 (m9 (m9 v0 8) 5) x8))))))))) ∧ (¬ x2 ≠ 0 → q (-1) m3))))) : CtI (d + 1) M_Ap_decide [(2, v0), (0, v1), (0, v2), (0, v3), (0, v4)] kd m q :=
  Ct.start k_Ap_decide (Nat.le_of_ble_eq_true rfl) ⟨1, Or.inr (Or.inl ⟨rfl, rfl⟩)⟩ (T_Ap_decide_0 h)
set_option maxRecDepth 20000 in
set_option maxHeartbeats 1000000 in
theorem T_Ap_parity_0 {d : Nat} {kd : ZK} {m : ZM} {q : Int → ZM → Prop} {v0 v1 v2 v3 : Int} (h : (zobj kd v0 7 ∧ (zobj kd (m v0 8) 1 ∧ ∃ q1, CtI d M_Game_hasCell [(2, m v0 8), (0, v1), (0, v2)] kd m q1 ∧ ∀ x2 m3, q1 x2 m3 → ((x2 = 0 → q (-1) m3) ∧ (¬ x2 = 0 → ((v3 < 0 → q (-1) m3) ∧ (¬ v3 < 0 → ((v3 ≤ 1 → (zobj kd v0 7 ∧ (zobj kd (m3 v0 8) 1 ∧ ∃ q4, CtI d M_Game_signAt [(2, m3 v0 8), (0, v1), (0, v2)] kd m3 q4 ∧ ∀ x5 m6, q4 x5 m6 → ((x5 ≠ (iw (1 - (iw (2 * v3)))) → (zobj kd v0 7 ∧ zobj kd v0 7 ∧ (zobj kd (m6 v0 1) 2 ∧ ∃ q7, CtV d M_Past_remember [(2, m6 v0 1), (2, m6 v0 8)] kd m6 q7 ∧ ∀ m9, q7 m9 → (zobj kd v0 7 ∧ (zobj kd (m9 v0 8) 1 ∧ ∃ q10, CtV d M_Game_winByParity [(2, m9 v0 8), (0, v1), (0, v2), (0, v3)] kd m9 q10 ∧ ∀ m12, q10 m12 → q 1 m12))))) ∧ (¬ x5 ≠ (iw (1 - (iw (2 * v3)))) → q (-2) m6))))) ∧ (¬ v3 ≤ 1 → q (-1) m3))))))))) : Ev (d + 1) M_Ap_parity 0 0 0 [(2, v0), (0, v1), (0, v2), (0, v3)] [] kd m (zqI kd q) := by
  obtain ⟨o1, h⟩ := h
  refine EvX.blk (pc' := 6) [(.aload_n 0, 0, 0), (.getfield 62, 7, 8), (.iload_n 1, 0, 0), (.iload_n 2, 0, 0)] (by decide +kernel) ⟨g_Ap_62, trivial⟩ ⟨o1, ?_⟩
  show Ev (d + 1) M_Ap_parity 0 0 6 [(2, v0), (0, v1), (0, v2), (0, v3)] [(0, v2), (0, v1), (2, m v0 8)] kd m (zqI kd q)
  obtain ⟨ov, h⟩ := h
  obtain ⟨q1, hq, h⟩ := h
  refine EvX.callV (c := 1) (mc := 0) (ms := 0) (as := [(0, v1), (0, v2)]) (st := []) (by decide +kernel) l_Ap_93 k_Game_hasCell v_Game_hasCell a_Game_hasCell (by decide) (Nat.le_of_ble_eq_true rfl) rfl ov hq (fun r kd1 m3 hr => ?_)
  obtain ⟨x2, rfl, hk, hr⟩ := hr
  subst kd1
  have h := h x2 m3 hr
  show Ev (d + 1) M_Ap_parity 0 0 9 [(2, v0), (0, v1), (0, v2), (0, v3)] [(0, x2)] kd m3 (zqI kd q)
  refine EvX.if_eq (off := 12) (tgt := 21) (by decide +kernel) (by decide) (fun hc => ?_) (fun hc => ?_)
  · have h := h.1 hc
    refine EvX.blk (pc' := 22) [(.iconst (-1), 0, 0)] (by decide +kernel) trivial ?_
    show Ev (d + 1) M_Ap_parity 0 0 22 [(2, v0), (0, v1), (0, v2), (0, v3)] [(0, (-1))] kd m3 (zqI kd q)
    exact EvX.ret (r := (0, (-1))) (by decide +kernel) rfl ⟨_, rfl, rfl, h⟩
  · have h := h.2 hc
    refine EvX.blk (pc' := 13) [(.iload_n 3, 0, 0)] (by decide +kernel) trivial ?_
    show Ev (d + 1) M_Ap_parity 0 0 13 [(2, v0), (0, v1), (0, v2), (0, v3)] [(0, v3)] kd m3 (zqI kd q)
    refine EvX.if_lt (off := 8) (tgt := 21) (by decide +kernel) (by decide) (fun hc => ?_) (fun hc => ?_)
    · have h := h.1 hc
      refine EvX.blk (pc' := 22) [(.iconst (-1), 0, 0)] (by decide +kernel) trivial ?_
      show Ev (d + 1) M_Ap_parity 0 0 22 [(2, v0), (0, v1), (0, v2), (0, v3)] [(0, (-1))] kd m3 (zqI kd q)
      exact EvX.ret (r := (0, (-1))) (by decide +kernel) rfl ⟨_, rfl, rfl, h⟩
    · have h := h.2 hc
      refine EvX.blk (pc' := 18) [(.iload_n 3, 0, 0), (.iconst 1, 0, 0)] (by decide +kernel) trivial ?_
      show Ev (d + 1) M_Ap_parity 0 0 18 [(2, v0), (0, v1), (0, v2), (0, v3)] [(0, 1), (0, v3)] kd m3 (zqI kd q)
      refine EvX.icmp_le (off := 5) (tgt := 23) (by decide +kernel) (by decide) (fun hc => ?_) (fun hc => ?_)
      · have h := h.1 hc
        obtain ⟨o1, h⟩ := h
        refine EvX.blk (pc' := 29) [(.aload_n 0, 0, 0), (.getfield 62, 7, 8), (.iload_n 1, 0, 0), (.iload_n 2, 0, 0)] (by decide +kernel) ⟨g_Ap_62, trivial⟩ ⟨o1, ?_⟩
        show Ev (d + 1) M_Ap_parity 0 0 29 [(2, v0), (0, v1), (0, v2), (0, v3)] [(0, v2), (0, v1), (2, m3 v0 8)] kd m3 (zqI kd q)
        obtain ⟨ov, h⟩ := h
        obtain ⟨q4, hq, h⟩ := h
        refine EvX.callV (c := 1) (mc := 0) (ms := 0) (as := [(0, v1), (0, v2)]) (st := []) (by decide +kernel) l_Ap_120 k_Game_signAt v_Game_signAt a_Game_signAt (by decide) (Nat.le_of_ble_eq_true rfl) rfl ov hq (fun r kd1 m6 hr => ?_)
        obtain ⟨x5, rfl, hk, hr⟩ := hr
        subst kd1
        have h := h x5 m6 hr
        show Ev (d + 1) M_Ap_parity 0 0 32 [(2, v0), (0, v1), (0, v2), (0, v3)] [(0, x5)] kd m6 (zqI kd q)
        refine EvX.blk (pc' := 37) [(.iconst 1, 0, 0), (.iconst 2, 0, 0), (.iload_n 3, 0, 0), (.imul, 0, 0), (.isub, 0, 0)] (by decide +kernel) trivial ?_
        show Ev (d + 1) M_Ap_parity 0 0 37 [(2, v0), (0, v1), (0, v2), (0, v3)] [(0, iw (1 - (iw (2 * v3)))), (0, x5)] kd m6 (zqI kd q)
        refine EvX.icmp_ne (off := 6) (tgt := 43) (by decide +kernel) (by decide) (fun hc => ?_) (fun hc => ?_)
        · have h := h.1 hc
          obtain ⟨o1, o2, h⟩ := h
          refine EvX.blk (pc' := 51) [(.aload_n 0, 0, 0), (.getfield 19, 7, 1), (.aload_n 0, 0, 0), (.getfield 62, 7, 8)] (by decide +kernel) ⟨g_Ap_19, g_Ap_62, trivial⟩ ⟨o1, o2, ?_⟩
          show Ev (d + 1) M_Ap_parity 0 0 51 [(2, v0), (0, v1), (0, v2), (0, v3)] [(2, m6 v0 8), (2, m6 v0 1)] kd m6 (zqI kd q)
          obtain ⟨ov, h⟩ := h
          obtain ⟨q7, hq, h⟩ := h
          refine EvX.callV (c := 2) (mc := 0) (ms := 0) (as := [(2, m6 v0 8)]) (st := []) (by decide +kernel) l_Ap_105 k_Past_remember v_Past_remember a_Past_remember (by decide) (Nat.le_of_ble_eq_true rfl) rfl ov hq (fun r kd1 m9 hr => ?_)
          obtain ⟨rfl, hk, hr⟩ := hr
          subst kd1
          have h := h m9 hr
          show Ev (d + 1) M_Ap_parity 0 0 54 [(2, v0), (0, v1), (0, v2), (0, v3)] [] kd m9 (zqI kd q)
          obtain ⟨o1, h⟩ := h
          refine EvX.blk (pc' := 61) [(.aload_n 0, 0, 0), (.getfield 62, 7, 8), (.iload_n 1, 0, 0), (.iload_n 2, 0, 0), (.iload_n 3, 0, 0)] (by decide +kernel) ⟨g_Ap_62, trivial⟩ ⟨o1, ?_⟩
          show Ev (d + 1) M_Ap_parity 0 0 61 [(2, v0), (0, v1), (0, v2), (0, v3)] [(0, v3), (0, v2), (0, v1), (2, m9 v0 8)] kd m9 (zqI kd q)
          obtain ⟨ov, h⟩ := h
          obtain ⟨q10, hq, h⟩ := h
          refine EvX.callV (c := 1) (mc := 0) (ms := 0) (as := [(0, v1), (0, v2), (0, v3)]) (st := []) (by decide +kernel) l_Ap_124 k_Game_winByParity v_Game_winByParity a_Game_winByParity (by decide) (Nat.le_of_ble_eq_true rfl) rfl ov hq (fun r kd1 m12 hr => ?_)
          obtain ⟨rfl, hk, hr⟩ := hr
          subst kd1
          have h := h m12 hr
          show Ev (d + 1) M_Ap_parity 0 0 64 [(2, v0), (0, v1), (0, v2), (0, v3)] [] kd m12 (zqI kd q)
          refine EvX.blk (pc' := 65) [(.iconst 1, 0, 0)] (by decide +kernel) trivial ?_
          show Ev (d + 1) M_Ap_parity 0 0 65 [(2, v0), (0, v1), (0, v2), (0, v3)] [(0, 1)] kd m12 (zqI kd q)
          exact EvX.ret (r := (0, 1)) (by decide +kernel) rfl ⟨_, rfl, rfl, h⟩
        · have h := h.2 hc
          refine EvX.blk (pc' := 42) [(.bipush (-2), 0, 0)] (by decide +kernel) trivial ?_
          show Ev (d + 1) M_Ap_parity 0 0 42 [(2, v0), (0, v1), (0, v2), (0, v3)] [(0, (-2))] kd m6 (zqI kd q)
          exact EvX.ret (r := (0, (-2))) (by decide +kernel) rfl ⟨_, rfl, rfl, h⟩
      · have h := h.2 hc
        refine EvX.blk (pc' := 22) [(.iconst (-1), 0, 0)] (by decide +kernel) trivial ?_
        show Ev (d + 1) M_Ap_parity 0 0 22 [(2, v0), (0, v1), (0, v2), (0, v3)] [(0, (-1))] kd m3 (zqI kd q)
        exact EvX.ret (r := (0, (-1))) (by decide +kernel) rfl ⟨_, rfl, rfl, h⟩
theorem S_Ap_parity {d : Nat} {kd : ZK} {m : ZM} {q : Int → ZM → Prop} {v0 v1 v2 v3 : Int} (h : (zobj kd v0 7 ∧ (zobj kd (m v0 8) 1 ∧ ∃ q1, CtI d M_Game_hasCell [(2, m v0 8), (0, v1), (0, v2)] kd m q1 ∧ ∀ x2 m3, q1 x2 m3 → ((x2 = 0 → q (-1) m3) ∧ (¬ x2 = 0 → ((v3 < 0 → q (-1) m3) ∧ (¬ v3 < 0 → ((v3 ≤ 1 → (zobj kd v0 7 ∧ (zobj kd (m3 v0 8) 1 ∧ ∃ q4, CtI d M_Game_signAt [(2, m3 v0 8), (0, v1), (0, v2)] kd m3 q4 ∧ ∀ x5 m6, q4 x5 m6 → ((x5 ≠ (iw (1 - (iw (2 * v3)))) → (zobj kd v0 7 ∧ zobj kd v0 7 ∧ (zobj kd (m6 v0 1) 2 ∧ ∃ q7, CtV d M_Past_remember [(2, m6 v0 1), (2, m6 v0 8)] kd m6 q7 ∧ ∀ m9, q7 m9 → (zobj kd v0 7 ∧ (zobj kd (m9 v0 8) 1 ∧ ∃ q10, CtV d M_Game_winByParity [(2, m9 v0 8), (0, v1), (0, v2), (0, v3)] kd m9 q10 ∧ ∀ m12, q10 m12 → q 1 m12))))) ∧ (¬ x5 ≠ (iw (1 - (iw (2 * v3)))) → q (-2) m6))))) ∧ (¬ v3 ≤ 1 → q (-1) m3))))))))) : CtI (d + 1) M_Ap_parity [(2, v0), (0, v1), (0, v2), (0, v3)] kd m q :=
  Ct.start k_Ap_parity (Nat.le_of_ble_eq_true rfl) ⟨1, Or.inr (Or.inl ⟨rfl, rfl⟩)⟩ (T_Ap_parity_0 h)
set_option maxRecDepth 20000 in
set_option maxHeartbeats 1000000 in
theorem T_Ap_exchange_0 {d : Nat} {kd : ZK} {m : ZM} {q : Int → ZM → Prop} {v0 v1 v2 v3 v4 : Int} (h : (zobj kd v0 7 ∧ (zobj kd (m v0 8) 1 ∧ ∃ q1, CtI d M_Game_hasTwoAnswers [(2, m v0 8), (0, v1), (0, v2), (0, v3), (0, v4)] kd m q1 ∧ ∀ x2 m3, q1 x2 m3 → ((x2 ≠ 0 → (zobj kd v0 7 ∧ zobj kd v0 7 ∧ (zobj kd (m3 v0 1) 2 ∧ ∃ q4, CtV d M_Past_remember [(2, m3 v0 1), (2, m3 v0 8)] kd m3 q4 ∧ ∀ m6, q4 m6 → (zobj kd v0 7 ∧ (zobj kd (m6 v0 8) 1 ∧ ∃ q7, CtV d M_Game_exchangeAnswers [(2, m6 v0 8), (0, v1), (0, v2), (0, v3), (0, v4)] kd m6 q7 ∧ ∀ m9, q7 m9 → q 1 m9))))) ∧ (¬ x2 ≠ 0 → q (-1) m3))))) : Ev (d + 1) M_Ap_exchange 0 0 0 [(2, v0), (0, v1), (0, v2), (0, v3), (0, v4)] [] kd m (zqI kd q) := by
  obtain ⟨o1, h⟩ := h
  refine EvX.blk (pc' := 9) [(.aload_n 0, 0, 0), (.getfield 62, 7, 8), (.iload_n 1, 0, 0), (.iload_n 2, 0, 0), (.iload_n 3, 0, 0), (.iload 4, 0, 0)] (by decide +kernel) ⟨g_Ap_62, trivial⟩ ⟨o1, ?_⟩
  show Ev (d + 1) M_Ap_exchange 0 0 9 [(2, v0), (0, v1), (0, v2), (0, v3), (0, v4)] [(0, v4), (0, v3), (0, v2), (0, v1), (2, m v0 8)] kd m (zqI kd q)
  obtain ⟨ov, h⟩ := h
  obtain ⟨q1, hq, h⟩ := h
  refine EvX.callV (c := 1) (mc := 0) (ms := 0) (as := [(0, v1), (0, v2), (0, v3), (0, v4)]) (st := []) (by decide +kernel) l_Ap_128 k_Game_hasTwoAnswers v_Game_hasTwoAnswers a_Game_hasTwoAnswers (by decide) (Nat.le_of_ble_eq_true rfl) rfl ov hq (fun r kd1 m3 hr => ?_)
  obtain ⟨x2, rfl, hk, hr⟩ := hr
  subst kd1
  have h := h x2 m3 hr
  show Ev (d + 1) M_Ap_exchange 0 0 12 [(2, v0), (0, v1), (0, v2), (0, v3), (0, v4)] [(0, x2)] kd m3 (zqI kd q)
  refine EvX.if_ne (off := 5) (tgt := 17) (by decide +kernel) (by decide) (fun hc => ?_) (fun hc => ?_)
  · have h := h.1 hc
    obtain ⟨o1, o2, h⟩ := h
    refine EvX.blk (pc' := 25) [(.aload_n 0, 0, 0), (.getfield 19, 7, 1), (.aload_n 0, 0, 0), (.getfield 62, 7, 8)] (by decide +kernel) ⟨g_Ap_19, g_Ap_62, trivial⟩ ⟨o1, o2, ?_⟩
    show Ev (d + 1) M_Ap_exchange 0 0 25 [(2, v0), (0, v1), (0, v2), (0, v3), (0, v4)] [(2, m3 v0 8), (2, m3 v0 1)] kd m3 (zqI kd q)
    obtain ⟨ov, h⟩ := h
    obtain ⟨q4, hq, h⟩ := h
    refine EvX.callV (c := 2) (mc := 0) (ms := 0) (as := [(2, m3 v0 8)]) (st := []) (by decide +kernel) l_Ap_105 k_Past_remember v_Past_remember a_Past_remember (by decide) (Nat.le_of_ble_eq_true rfl) rfl ov hq (fun r kd1 m6 hr => ?_)
    obtain ⟨rfl, hk, hr⟩ := hr
    subst kd1
    have h := h m6 hr
    show Ev (d + 1) M_Ap_exchange 0 0 28 [(2, v0), (0, v1), (0, v2), (0, v3), (0, v4)] [] kd m6 (zqI kd q)
    obtain ⟨o1, h⟩ := h
    refine EvX.blk (pc' := 37) [(.aload_n 0, 0, 0), (.getfield 62, 7, 8), (.iload_n 1, 0, 0), (.iload_n 2, 0, 0), (.iload_n 3, 0, 0), (.iload 4, 0, 0)] (by decide +kernel) ⟨g_Ap_62, trivial⟩ ⟨o1, ?_⟩
    show Ev (d + 1) M_Ap_exchange 0 0 37 [(2, v0), (0, v1), (0, v2), (0, v3), (0, v4)] [(0, v4), (0, v3), (0, v2), (0, v1), (2, m6 v0 8)] kd m6 (zqI kd q)
    obtain ⟨ov, h⟩ := h
    obtain ⟨q7, hq, h⟩ := h
    refine EvX.callV (c := 1) (mc := 0) (ms := 0) (as := [(0, v1), (0, v2), (0, v3), (0, v4)]) (st := []) (by decide +kernel) l_Ap_131 k_Game_exchangeAnswers v_Game_exchangeAnswers a_Game_exchangeAnswers (by decide) (Nat.le_of_ble_eq_true rfl) rfl ov hq (fun r kd1 m9 hr => ?_)
    obtain ⟨rfl, hk, hr⟩ := hr
    subst kd1
    have h := h m9 hr
    show Ev (d + 1) M_Ap_exchange 0 0 40 [(2, v0), (0, v1), (0, v2), (0, v3), (0, v4)] [] kd m9 (zqI kd q)
    refine EvX.blk (pc' := 41) [(.iconst 1, 0, 0)] (by decide +kernel) trivial ?_
    show Ev (d + 1) M_Ap_exchange 0 0 41 [(2, v0), (0, v1), (0, v2), (0, v3), (0, v4)] [(0, 1)] kd m9 (zqI kd q)
    exact EvX.ret (r := (0, 1)) (by decide +kernel) rfl ⟨_, rfl, rfl, h⟩
  · have h := h.2 hc
    refine EvX.blk (pc' := 16) [(.iconst (-1), 0, 0)] (by decide +kernel) trivial ?_
    show Ev (d + 1) M_Ap_exchange 0 0 16 [(2, v0), (0, v1), (0, v2), (0, v3), (0, v4)] [(0, (-1))] kd m3 (zqI kd q)
    exact EvX.ret (r := (0, (-1))) (by decide +kernel) rfl ⟨_, rfl, rfl, h⟩
theorem S_Ap_exchange {d : Nat} {kd : ZK} {m : ZM} {q : Int → ZM → Prop} {v0 v1 v2 v3 v4 : Int} (h : (zobj kd v0 7 ∧ (zobj kd (m v0 8) 1 ∧ ∃ q1, CtI d M_Game_hasTwoAnswers [(2, m v0 8), (0, v1), (0, v2), (0, v3), (0, v4)] kd m q1 ∧ ∀ x2 m3, q1 x2 m3 → ((x2 ≠ 0 → (zobj kd v0 7 ∧ zobj kd v0 7 ∧ (zobj kd (m3 v0 1) 2 ∧ ∃ q4, CtV d M_Past_remember [(2, m3 v0 1), (2, m3 v0 8)] kd m3 q4 ∧ ∀ m6, q4 m6 → (zobj kd v0 7 ∧ (zobj kd (m6 v0 8) 1 ∧ ∃ q7, CtV d M_Game_exchangeAnswers [(2, m6 v0 8), (0, v1), (0, v2), (0, v3), (0, v4)] kd m6 q7 ∧ ∀ m9, q7 m9 → q 1 m9))))) ∧ (¬ x2 ≠ 0 → q (-1) m3))))) : CtI (d + 1) M_Ap_exchange [(2, v0), (0, v1), (0, v2), (0, v3), (0, v4)] kd m q :=
  Ct.start k_Ap_exchange (Nat.le_of_ble_eq_true rfl) ⟨1, Or.inr (Or.inl ⟨rfl, rfl⟩)⟩ (T_Ap_exchange_0 h)
set_option maxRecDepth 20000 in
set_option maxHeartbeats 1000000 in
theorem T_Ap_swap_0 {d : Nat} {kd : ZK} {m : ZM} {q : Int → ZM → Prop} {v0 : Int} (h : (zobj kd v0 7 ∧ (zobj kd (m v0 8) 1 ∧ ∃ q1, CtI d M_Game_isTold [(2, m v0 8)] kd m q1 ∧ ∀ x2 m3, q1 x2 m3 → ((x2 ≠ 0 → (zobj kd v0 7 ∧ zobj kd v0 7 ∧ (zobj kd (m3 v0 1) 2 ∧ ∃ q4, CtV d M_Past_remember [(2, m3 v0 1), (2, m3 v0 8)] kd m3 q4 ∧ ∀ m6, q4 m6 → (zobj kd v0 7 ∧ zobj kd v0 7 ∧ (zobj kd (m6 v0 9) 1 ∧ ∃ q7, CtV d M_Game_becomeFlipped [(2, m6 v0 9), (2, m6 v0 8)] kd m6 q7 ∧ ∀ m9, q7 m9 → (zobj kd v0 7 ∧ ∃ q10, CtV d M_Ap_takeSpare [(2, v0)] kd m9 q10 ∧ ∀ m12, q10 m12 → q 1 m12)))))) ∧ (¬ x2 ≠ 0 → q (-1) m3))))) : Ev (d + 1) M_Ap_swap 0 0 0 [(2, v0)] [] kd m (zqI kd q) := by
  obtain ⟨o1, h⟩ := h
  refine EvX.blk (pc' := 4) [(.aload_n 0, 0, 0), (.getfield 62, 7, 8)] (by decide +kernel) ⟨g_Ap_62, trivial⟩ ⟨o1, ?_⟩
  show Ev (d + 1) M_Ap_swap 0 0 4 [(2, v0)] [(2, m v0 8)] kd m (zqI kd q)
  obtain ⟨ov, h⟩ := h
  obtain ⟨q1, hq, h⟩ := h
  refine EvX.callV (c := 1) (mc := 0) (ms := 0) (as := []) (st := []) (by decide +kernel) l_Ap_135 k_Game_isTold v_Game_isTold a_Game_isTold (by decide) (Nat.le_of_ble_eq_true rfl) rfl ov hq (fun r kd1 m3 hr => ?_)
  obtain ⟨x2, rfl, hk, hr⟩ := hr
  subst kd1
  have h := h x2 m3 hr
  show Ev (d + 1) M_Ap_swap 0 0 7 [(2, v0)] [(0, x2)] kd m3 (zqI kd q)
  refine EvX.if_ne (off := 5) (tgt := 12) (by decide +kernel) (by decide) (fun hc => ?_) (fun hc => ?_)
  · have h := h.1 hc
    obtain ⟨o1, o2, h⟩ := h
    refine EvX.blk (pc' := 20) [(.aload_n 0, 0, 0), (.getfield 19, 7, 1), (.aload_n 0, 0, 0), (.getfield 62, 7, 8)] (by decide +kernel) ⟨g_Ap_19, g_Ap_62, trivial⟩ ⟨o1, o2, ?_⟩
    show Ev (d + 1) M_Ap_swap 0 0 20 [(2, v0)] [(2, m3 v0 8), (2, m3 v0 1)] kd m3 (zqI kd q)
    obtain ⟨ov, h⟩ := h
    obtain ⟨q4, hq, h⟩ := h
    refine EvX.callV (c := 2) (mc := 0) (ms := 0) (as := [(2, m3 v0 8)]) (st := []) (by decide +kernel) l_Ap_105 k_Past_remember v_Past_remember a_Past_remember (by decide) (Nat.le_of_ble_eq_true rfl) rfl ov hq (fun r kd1 m6 hr => ?_)
    obtain ⟨rfl, hk, hr⟩ := hr
    subst kd1
    have h := h m6 hr
    show Ev (d + 1) M_Ap_swap 0 0 23 [(2, v0)] [] kd m6 (zqI kd q)
    obtain ⟨o1, o2, h⟩ := h
    refine EvX.blk (pc' := 31) [(.aload_n 0, 0, 0), (.getfield 66, 7, 9), (.aload_n 0, 0, 0), (.getfield 62, 7, 8)] (by decide +kernel) ⟨g_Ap_66, g_Ap_62, trivial⟩ ⟨o1, o2, ?_⟩
    show Ev (d + 1) M_Ap_swap 0 0 31 [(2, v0)] [(2, m6 v0 8), (2, m6 v0 9)] kd m6 (zqI kd q)
    obtain ⟨ov, h⟩ := h
    obtain ⟨q7, hq, h⟩ := h
    refine EvX.callV (c := 1) (mc := 0) (ms := 0) (as := [(2, m6 v0 8)]) (st := []) (by decide +kernel) l_Ap_138 k_Game_becomeFlipped v_Game_becomeFlipped a_Game_becomeFlipped (by decide) (Nat.le_of_ble_eq_true rfl) rfl ov hq (fun r kd1 m9 hr => ?_)
    obtain ⟨rfl, hk, hr⟩ := hr
    subst kd1
    have h := h m9 hr
    show Ev (d + 1) M_Ap_swap 0 0 34 [(2, v0)] [] kd m9 (zqI kd q)
    refine EvX.blk (pc' := 35) [(.aload_n 0, 0, 0)] (by decide +kernel) trivial ?_
    show Ev (d + 1) M_Ap_swap 0 0 35 [(2, v0)] [(2, v0)] kd m9 (zqI kd q)
    obtain ⟨ov, h⟩ := h
    obtain ⟨q10, hq, h⟩ := h
    refine EvX.callV (c := 7) (mc := 0) (ms := 0) (as := []) (st := []) (by decide +kernel) l_Ap_84 k_Ap_takeSpare v_Ap_takeSpare a_Ap_takeSpare (by decide) (Nat.le_of_ble_eq_true rfl) rfl ov hq (fun r kd1 m12 hr => ?_)
    obtain ⟨rfl, hk, hr⟩ := hr
    subst kd1
    have h := h m12 hr
    show Ev (d + 1) M_Ap_swap 0 0 38 [(2, v0)] [] kd m12 (zqI kd q)
    refine EvX.blk (pc' := 39) [(.iconst 1, 0, 0)] (by decide +kernel) trivial ?_
    show Ev (d + 1) M_Ap_swap 0 0 39 [(2, v0)] [(0, 1)] kd m12 (zqI kd q)
    exact EvX.ret (r := (0, 1)) (by decide +kernel) rfl ⟨_, rfl, rfl, h⟩
  · have h := h.2 hc
    refine EvX.blk (pc' := 11) [(.iconst (-1), 0, 0)] (by decide +kernel) trivial ?_
    show Ev (d + 1) M_Ap_swap 0 0 11 [(2, v0)] [(0, (-1))] kd m3 (zqI kd q)
    exact EvX.ret (r := (0, (-1))) (by decide +kernel) rfl ⟨_, rfl, rfl, h⟩
theorem S_Ap_swap {d : Nat} {kd : ZK} {m : ZM} {q : Int → ZM → Prop} {v0 : Int} (h : (zobj kd v0 7 ∧ (zobj kd (m v0 8) 1 ∧ ∃ q1, CtI d M_Game_isTold [(2, m v0 8)] kd m q1 ∧ ∀ x2 m3, q1 x2 m3 → ((x2 ≠ 0 → (zobj kd v0 7 ∧ zobj kd v0 7 ∧ (zobj kd (m3 v0 1) 2 ∧ ∃ q4, CtV d M_Past_remember [(2, m3 v0 1), (2, m3 v0 8)] kd m3 q4 ∧ ∀ m6, q4 m6 → (zobj kd v0 7 ∧ zobj kd v0 7 ∧ (zobj kd (m6 v0 9) 1 ∧ ∃ q7, CtV d M_Game_becomeFlipped [(2, m6 v0 9), (2, m6 v0 8)] kd m6 q7 ∧ ∀ m9, q7 m9 → (zobj kd v0 7 ∧ ∃ q10, CtV d M_Ap_takeSpare [(2, v0)] kd m9 q10 ∧ ∀ m12, q10 m12 → q 1 m12)))))) ∧ (¬ x2 ≠ 0 → q (-1) m3))))) : CtI (d + 1) M_Ap_swap [(2, v0)] kd m q :=
  Ct.start k_Ap_swap (Nat.le_of_ble_eq_true rfl) ⟨1, Or.inr (Or.inl ⟨rfl, rfl⟩)⟩ (T_Ap_swap_0 h)
set_option maxRecDepth 20000 in
set_option maxHeartbeats 1000000 in
theorem T_Ap_drop_0 {d : Nat} {kd : ZK} {m : ZM} {q : Int → ZM → Prop} {v0 v1 v2 : Int} (h : (zobj kd v0 7 ∧ (zobj kd (m v0 8) 1 ∧ ∃ q1, CtI d M_Game_hasQuestion [(2, m v0 8), (0, v1), (0, v2)] kd m q1 ∧ ∀ x2 m3, q1 x2 m3 → ((x2 ≠ 0 → (zobj kd v0 7 ∧ (zobj kd (m3 v0 8) 1 ∧ ∃ q4, CtI d M_Game_questionsOf [(2, m3 v0 8), (0, v1)] kd m3 q4 ∧ ∀ x5 m6, q4 x5 m6 → ((x5 ≠ 1 → (zobj kd v0 7 ∧ zobj kd v0 7 ∧ (zobj kd (m6 v0 1) 2 ∧ ∃ q7, CtV d M_Past_remember [(2, m6 v0 1), (2, m6 v0 8)] kd m6 q7 ∧ ∀ m9, q7 m9 → (zobj kd v0 7 ∧ (zobj kd (m9 v0 8) 1 ∧ ∃ q10, CtI d M_Game_dropQuestion [(2, m9 v0 8), (0, v1), (0, v2)] kd m9 q10 ∧ ∀ x11 m12, q10 x11 m12 → q x11 m12))))) ∧ (¬ x5 ≠ 1 → q (-2) m6))))) ∧ (¬ x2 ≠ 0 → q (-1) m3))))) : Ev (d + 1) M_Ap_drop 0 0 0 [(2, v0), (0, v1), (0, v2)] [] kd m (zqI kd q) := by
  obtain ⟨o1, h⟩ := h
  refine EvX.blk (pc' := 6) [(.aload_n 0, 0, 0), (.getfield 62, 7, 8), (.iload_n 1, 0, 0), (.iload_n 2, 0, 0)] (by decide +kernel) ⟨g_Ap_62, trivial⟩ ⟨o1, ?_⟩
  show Ev (d + 1) M_Ap_drop 0 0 6 [(2, v0), (0, v1), (0, v2)] [(0, v2), (0, v1), (2, m v0 8)] kd m (zqI kd q)
  obtain ⟨ov, h⟩ := h
  obtain ⟨q1, hq, h⟩ := h
  refine EvX.callV (c := 1) (mc := 0) (ms := 0) (as := [(0, v1), (0, v2)]) (st := []) (by decide +kernel) l_Ap_141 k_Game_hasQuestion v_Game_hasQuestion a_Game_hasQuestion (by decide) (Nat.le_of_ble_eq_true rfl) rfl ov hq (fun r kd1 m3 hr => ?_)
  obtain ⟨x2, rfl, hk, hr⟩ := hr
  subst kd1
  have h := h x2 m3 hr
  show Ev (d + 1) M_Ap_drop 0 0 9 [(2, v0), (0, v1), (0, v2)] [(0, x2)] kd m3 (zqI kd q)
  refine EvX.if_ne (off := 5) (tgt := 14) (by decide +kernel) (by decide) (fun hc => ?_) (fun hc => ?_)
  · have h := h.1 hc
    obtain ⟨o1, h⟩ := h
    refine EvX.blk (pc' := 19) [(.aload_n 0, 0, 0), (.getfield 62, 7, 8), (.iload_n 1, 0, 0)] (by decide +kernel) ⟨g_Ap_62, trivial⟩ ⟨o1, ?_⟩
    show Ev (d + 1) M_Ap_drop 0 0 19 [(2, v0), (0, v1), (0, v2)] [(0, v1), (2, m3 v0 8)] kd m3 (zqI kd q)
    obtain ⟨ov, h⟩ := h
    obtain ⟨q4, hq, h⟩ := h
    refine EvX.callV (c := 1) (mc := 0) (ms := 0) (as := [(0, v1)]) (st := []) (by decide +kernel) l_Ap_144 k_Game_questionsOf v_Game_questionsOf a_Game_questionsOf (by decide) (Nat.le_of_ble_eq_true rfl) rfl ov hq (fun r kd1 m6 hr => ?_)
    obtain ⟨x5, rfl, hk, hr⟩ := hr
    subst kd1
    have h := h x5 m6 hr
    show Ev (d + 1) M_Ap_drop 0 0 22 [(2, v0), (0, v1), (0, v2)] [(0, x5)] kd m6 (zqI kd q)
    refine EvX.blk (pc' := 23) [(.iconst 1, 0, 0)] (by decide +kernel) trivial ?_
    show Ev (d + 1) M_Ap_drop 0 0 23 [(2, v0), (0, v1), (0, v2)] [(0, 1), (0, x5)] kd m6 (zqI kd q)
    refine EvX.icmp_ne (off := 6) (tgt := 29) (by decide +kernel) (by decide) (fun hc => ?_) (fun hc => ?_)
    · have h := h.1 hc
      obtain ⟨o1, o2, h⟩ := h
      refine EvX.blk (pc' := 37) [(.aload_n 0, 0, 0), (.getfield 19, 7, 1), (.aload_n 0, 0, 0), (.getfield 62, 7, 8)] (by decide +kernel) ⟨g_Ap_19, g_Ap_62, trivial⟩ ⟨o1, o2, ?_⟩
      show Ev (d + 1) M_Ap_drop 0 0 37 [(2, v0), (0, v1), (0, v2)] [(2, m6 v0 8), (2, m6 v0 1)] kd m6 (zqI kd q)
      obtain ⟨ov, h⟩ := h
      obtain ⟨q7, hq, h⟩ := h
      refine EvX.callV (c := 2) (mc := 0) (ms := 0) (as := [(2, m6 v0 8)]) (st := []) (by decide +kernel) l_Ap_105 k_Past_remember v_Past_remember a_Past_remember (by decide) (Nat.le_of_ble_eq_true rfl) rfl ov hq (fun r kd1 m9 hr => ?_)
      obtain ⟨rfl, hk, hr⟩ := hr
      subst kd1
      have h := h m9 hr
      show Ev (d + 1) M_Ap_drop 0 0 40 [(2, v0), (0, v1), (0, v2)] [] kd m9 (zqI kd q)
      obtain ⟨o1, h⟩ := h
      refine EvX.blk (pc' := 46) [(.aload_n 0, 0, 0), (.getfield 62, 7, 8), (.iload_n 1, 0, 0), (.iload_n 2, 0, 0)] (by decide +kernel) ⟨g_Ap_62, trivial⟩ ⟨o1, ?_⟩
      show Ev (d + 1) M_Ap_drop 0 0 46 [(2, v0), (0, v1), (0, v2)] [(0, v2), (0, v1), (2, m9 v0 8)] kd m9 (zqI kd q)
      obtain ⟨ov, h⟩ := h
      obtain ⟨q10, hq, h⟩ := h
      refine EvX.callV (c := 1) (mc := 0) (ms := 0) (as := [(0, v1), (0, v2)]) (st := []) (by decide +kernel) l_Ap_148 k_Game_dropQuestion v_Game_dropQuestion a_Game_dropQuestion (by decide) (Nat.le_of_ble_eq_true rfl) rfl ov hq (fun r kd1 m12 hr => ?_)
      obtain ⟨x11, rfl, hk, hr⟩ := hr
      subst kd1
      have h := h x11 m12 hr
      show Ev (d + 1) M_Ap_drop 0 0 49 [(2, v0), (0, v1), (0, v2)] [(0, x11)] kd m12 (zqI kd q)
      exact EvX.ret (r := (0, x11)) (by decide +kernel) rfl ⟨_, rfl, rfl, h⟩
    · have h := h.2 hc
      refine EvX.blk (pc' := 28) [(.bipush (-2), 0, 0)] (by decide +kernel) trivial ?_
      show Ev (d + 1) M_Ap_drop 0 0 28 [(2, v0), (0, v1), (0, v2)] [(0, (-2))] kd m6 (zqI kd q)
      exact EvX.ret (r := (0, (-2))) (by decide +kernel) rfl ⟨_, rfl, rfl, h⟩
  · have h := h.2 hc
    refine EvX.blk (pc' := 13) [(.iconst (-1), 0, 0)] (by decide +kernel) trivial ?_
    show Ev (d + 1) M_Ap_drop 0 0 13 [(2, v0), (0, v1), (0, v2)] [(0, (-1))] kd m3 (zqI kd q)
    exact EvX.ret (r := (0, (-1))) (by decide +kernel) rfl ⟨_, rfl, rfl, h⟩
theorem S_Ap_drop {d : Nat} {kd : ZK} {m : ZM} {q : Int → ZM → Prop} {v0 v1 v2 : Int} (h : (zobj kd v0 7 ∧ (zobj kd (m v0 8) 1 ∧ ∃ q1, CtI d M_Game_hasQuestion [(2, m v0 8), (0, v1), (0, v2)] kd m q1 ∧ ∀ x2 m3, q1 x2 m3 → ((x2 ≠ 0 → (zobj kd v0 7 ∧ (zobj kd (m3 v0 8) 1 ∧ ∃ q4, CtI d M_Game_questionsOf [(2, m3 v0 8), (0, v1)] kd m3 q4 ∧ ∀ x5 m6, q4 x5 m6 → ((x5 ≠ 1 → (zobj kd v0 7 ∧ zobj kd v0 7 ∧ (zobj kd (m6 v0 1) 2 ∧ ∃ q7, CtV d M_Past_remember [(2, m6 v0 1), (2, m6 v0 8)] kd m6 q7 ∧ ∀ m9, q7 m9 → (zobj kd v0 7 ∧ (zobj kd (m9 v0 8) 1 ∧ ∃ q10, CtI d M_Game_dropQuestion [(2, m9 v0 8), (0, v1), (0, v2)] kd m9 q10 ∧ ∀ x11 m12, q10 x11 m12 → q x11 m12))))) ∧ (¬ x5 ≠ 1 → q (-2) m6))))) ∧ (¬ x2 ≠ 0 → q (-1) m3))))) : CtI (d + 1) M_Ap_drop [(2, v0), (0, v1), (0, v2)] kd m q :=
  Ct.start k_Ap_drop (Nat.le_of_ble_eq_true rfl) ⟨1, Or.inr (Or.inl ⟨rfl, rfl⟩)⟩ (T_Ap_drop_0 h)
set_option maxRecDepth 20000 in
set_option maxHeartbeats 1000000 in
theorem T_Ap_copy_0 {d : Nat} {kd : ZK} {m : ZM} {q : Int → ZM → Prop} {v0 v1 v2 : Int} (h : (zobj kd v0 7 ∧ (zobj kd (m v0 8) 1 ∧ ∃ q1, CtI d M_Game_hasQuestion [(2, m v0 8), (0, v1), (0, v2)] kd m q1 ∧ ∀ x2 m3, q1 x2 m3 → ((x2 ≠ 0 → (zobj kd v0 7 ∧ (zobj kd (m3 v0 8) 1 ∧ ∃ q4, CtI d M_Game_questionsOf [(2, m3 v0 8), (0, v1)] kd m3 q4 ∧ ∀ x5 m6, q4 x5 m6 → ((x5 ≠ 5 → (zobj kd v0 7 ∧ zobj kd v0 7 ∧ (zobj kd (m6 v0 1) 2 ∧ ∃ q7, CtV d M_Past_remember [(2, m6 v0 1), (2, m6 v0 8)] kd m6 q7 ∧ ∀ m9, q7 m9 → (zobj kd v0 7 ∧ (zobj kd (m9 v0 8) 1 ∧ ∃ q10, CtI d M_Game_addQuestionLike [(2, m9 v0 8), (0, v1), (0, v2)] kd m9 q10 ∧ ∀ x11 m12, q10 x11 m12 → q x11 m12))))) ∧ (¬ x5 ≠ 5 → q (-2) m6))))) ∧ (¬ x2 ≠ 0 → q (-1) m3))))) : Ev (d + 1) M_Ap_copy 0 0 0 [(2, v0), (0, v1), (0, v2)] [] kd m (zqI kd q) := by
  obtain ⟨o1, h⟩ := h
  refine EvX.blk (pc' := 6) [(.aload_n 0, 0, 0), (.getfield 62, 7, 8), (.iload_n 1, 0, 0), (.iload_n 2, 0, 0)] (by decide +kernel) ⟨g_Ap_62, trivial⟩ ⟨o1, ?_⟩
  show Ev (d + 1) M_Ap_copy 0 0 6 [(2, v0), (0, v1), (0, v2)] [(0, v2), (0, v1), (2, m v0 8)] kd m (zqI kd q)
  obtain ⟨ov, h⟩ := h
  obtain ⟨q1, hq, h⟩ := h
  refine EvX.callV (c := 1) (mc := 0) (ms := 0) (as := [(0, v1), (0, v2)]) (st := []) (by decide +kernel) l_Ap_141 k_Game_hasQuestion v_Game_hasQuestion a_Game_hasQuestion (by decide) (Nat.le_of_ble_eq_true rfl) rfl ov hq (fun r kd1 m3 hr => ?_)
  obtain ⟨x2, rfl, hk, hr⟩ := hr
  subst kd1
  have h := h x2 m3 hr
  show Ev (d + 1) M_Ap_copy 0 0 9 [(2, v0), (0, v1), (0, v2)] [(0, x2)] kd m3 (zqI kd q)
  refine EvX.if_ne (off := 5) (tgt := 14) (by decide +kernel) (by decide) (fun hc => ?_) (fun hc => ?_)
  · have h := h.1 hc
    obtain ⟨o1, h⟩ := h
    refine EvX.blk (pc' := 19) [(.aload_n 0, 0, 0), (.getfield 62, 7, 8), (.iload_n 1, 0, 0)] (by decide +kernel) ⟨g_Ap_62, trivial⟩ ⟨o1, ?_⟩
    show Ev (d + 1) M_Ap_copy 0 0 19 [(2, v0), (0, v1), (0, v2)] [(0, v1), (2, m3 v0 8)] kd m3 (zqI kd q)
    obtain ⟨ov, h⟩ := h
    obtain ⟨q4, hq, h⟩ := h
    refine EvX.callV (c := 1) (mc := 0) (ms := 0) (as := [(0, v1)]) (st := []) (by decide +kernel) l_Ap_144 k_Game_questionsOf v_Game_questionsOf a_Game_questionsOf (by decide) (Nat.le_of_ble_eq_true rfl) rfl ov hq (fun r kd1 m6 hr => ?_)
    obtain ⟨x5, rfl, hk, hr⟩ := hr
    subst kd1
    have h := h x5 m6 hr
    show Ev (d + 1) M_Ap_copy 0 0 22 [(2, v0), (0, v1), (0, v2)] [(0, x5)] kd m6 (zqI kd q)
    refine EvX.blk (pc' := 23) [(.iconst 5, 0, 0)] (by decide +kernel) trivial ?_
    show Ev (d + 1) M_Ap_copy 0 0 23 [(2, v0), (0, v1), (0, v2)] [(0, 5), (0, x5)] kd m6 (zqI kd q)
    refine EvX.icmp_ne (off := 6) (tgt := 29) (by decide +kernel) (by decide) (fun hc => ?_) (fun hc => ?_)
    · have h := h.1 hc
      obtain ⟨o1, o2, h⟩ := h
      refine EvX.blk (pc' := 37) [(.aload_n 0, 0, 0), (.getfield 19, 7, 1), (.aload_n 0, 0, 0), (.getfield 62, 7, 8)] (by decide +kernel) ⟨g_Ap_19, g_Ap_62, trivial⟩ ⟨o1, o2, ?_⟩
      show Ev (d + 1) M_Ap_copy 0 0 37 [(2, v0), (0, v1), (0, v2)] [(2, m6 v0 8), (2, m6 v0 1)] kd m6 (zqI kd q)
      obtain ⟨ov, h⟩ := h
      obtain ⟨q7, hq, h⟩ := h
      refine EvX.callV (c := 2) (mc := 0) (ms := 0) (as := [(2, m6 v0 8)]) (st := []) (by decide +kernel) l_Ap_105 k_Past_remember v_Past_remember a_Past_remember (by decide) (Nat.le_of_ble_eq_true rfl) rfl ov hq (fun r kd1 m9 hr => ?_)
      obtain ⟨rfl, hk, hr⟩ := hr
      subst kd1
      have h := h m9 hr
      show Ev (d + 1) M_Ap_copy 0 0 40 [(2, v0), (0, v1), (0, v2)] [] kd m9 (zqI kd q)
      obtain ⟨o1, h⟩ := h
      refine EvX.blk (pc' := 46) [(.aload_n 0, 0, 0), (.getfield 62, 7, 8), (.iload_n 1, 0, 0), (.iload_n 2, 0, 0)] (by decide +kernel) ⟨g_Ap_62, trivial⟩ ⟨o1, ?_⟩
      show Ev (d + 1) M_Ap_copy 0 0 46 [(2, v0), (0, v1), (0, v2)] [(0, v2), (0, v1), (2, m9 v0 8)] kd m9 (zqI kd q)
      obtain ⟨ov, h⟩ := h
      obtain ⟨q10, hq, h⟩ := h
      refine EvX.callV (c := 1) (mc := 0) (ms := 0) (as := [(0, v1), (0, v2)]) (st := []) (by decide +kernel) l_Ap_151 k_Game_addQuestionLike v_Game_addQuestionLike a_Game_addQuestionLike (by decide) (Nat.le_of_ble_eq_true rfl) rfl ov hq (fun r kd1 m12 hr => ?_)
      obtain ⟨x11, rfl, hk, hr⟩ := hr
      subst kd1
      have h := h x11 m12 hr
      show Ev (d + 1) M_Ap_copy 0 0 49 [(2, v0), (0, v1), (0, v2)] [(0, x11)] kd m12 (zqI kd q)
      exact EvX.ret (r := (0, x11)) (by decide +kernel) rfl ⟨_, rfl, rfl, h⟩
    · have h := h.2 hc
      refine EvX.blk (pc' := 28) [(.bipush (-2), 0, 0)] (by decide +kernel) trivial ?_
      show Ev (d + 1) M_Ap_copy 0 0 28 [(2, v0), (0, v1), (0, v2)] [(0, (-2))] kd m6 (zqI kd q)
      exact EvX.ret (r := (0, (-2))) (by decide +kernel) rfl ⟨_, rfl, rfl, h⟩
  · have h := h.2 hc
    refine EvX.blk (pc' := 13) [(.iconst (-1), 0, 0)] (by decide +kernel) trivial ?_
    show Ev (d + 1) M_Ap_copy 0 0 13 [(2, v0), (0, v1), (0, v2)] [(0, (-1))] kd m3 (zqI kd q)
    exact EvX.ret (r := (0, (-1))) (by decide +kernel) rfl ⟨_, rfl, rfl, h⟩
theorem S_Ap_copy {d : Nat} {kd : ZK} {m : ZM} {q : Int → ZM → Prop} {v0 v1 v2 : Int} (h : (zobj kd v0 7 ∧ (zobj kd (m v0 8) 1 ∧ ∃ q1, CtI d M_Game_hasQuestion [(2, m v0 8), (0, v1), (0, v2)] kd m q1 ∧ ∀ x2 m3, q1 x2 m3 → ((x2 ≠ 0 → (zobj kd v0 7 ∧ (zobj kd (m3 v0 8) 1 ∧ ∃ q4, CtI d M_Game_questionsOf [(2, m3 v0 8), (0, v1)] kd m3 q4 ∧ ∀ x5 m6, q4 x5 m6 → ((x5 ≠ 5 → (zobj kd v0 7 ∧ zobj kd v0 7 ∧ (zobj kd (m6 v0 1) 2 ∧ ∃ q7, CtV d M_Past_remember [(2, m6 v0 1), (2, m6 v0 8)] kd m6 q7 ∧ ∀ m9, q7 m9 → (zobj kd v0 7 ∧ (zobj kd (m9 v0 8) 1 ∧ ∃ q10, CtI d M_Game_addQuestionLike [(2, m9 v0 8), (0, v1), (0, v2)] kd m9 q10 ∧ ∀ x11 m12, q10 x11 m12 → q x11 m12))))) ∧ (¬ x5 ≠ 5 → q (-2) m6))))) ∧ (¬ x2 ≠ 0 → q (-1) m3))))) : CtI (d + 1) M_Ap_copy [(2, v0), (0, v1), (0, v2)] kd m q :=
  Ct.start k_Ap_copy (Nat.le_of_ble_eq_true rfl) ⟨1, Or.inr (Or.inl ⟨rfl, rfl⟩)⟩ (T_Ap_copy_0 h)
set_option maxRecDepth 20000 in
set_option maxHeartbeats 1000000 in
theorem T_Ap_box_0 {d : Nat} {kd : ZK} {m : ZM} {q : Int → ZM → Prop} {v0 v1 v2 v3 v4 v5 : Int} (h : (zobj kd v0 7 ∧ (zobj kd (m v0 8) 1 ∧ ∃ q1, CtI d M_Game_hasSpot [(2, m v0 8), (0, v1), (0, v2), (0, v3), (0, v4)] kd m q1 ∧ ∀ x2 m3, q1 x2 m3 → ((x2 = 0 → q (-1) m3) ∧ (¬ x2 = 0 → ((v5 < 0 → q (-1) m3) ∧ (¬ v5 < 0 → ((v5 ≤ 12 → (∃ q4, CtI d M_Ap_spotOf [(0, 0), (0, v1), (0, v2), (0, v3), (0, v4)] kd m3 q4 ∧ ∀ x5 m6, q4 x5 m6 → (zobj kd v0 7 ∧ zobj kd (m6 v0 8) 1 ∧ zIn kd (m6 (m6 v0 8) 6) 0 x5 ∧ (((m6 (m6 (m6 v0 8) 6) x5) ≠ v5 → (zobj kd v0 7 ∧ zobj kd v0 7 ∧ (zobj kd (m6 v0 1) 2 ∧ ∃ q7, CtV d M_Past_remember [(2, m6 v0 1), (2, m6 v0 8)] kd m6 q7 ∧ ∀ m9, q7 m9 → (zobj kd v0 7 ∧ zobj kd (m9 v0 8) 1 ∧ zIn kd (m9 (m9 v0 8) 6) 0 x5 ∧ q (m6 (m6 (m6 v0 8) 6) x5) (zup m9 (m9 (m9 v0 8) 6) x5 v5))))) ∧ (¬ (m6 (m6 (m6 v0 8) 6) x5) ≠ v5 → q (-2) m6))))) ∧ (¬ v5 ≤ 12 → q (-1) m3))))))))) : Ev (d + 1) M_Ap_box 0 0 0 [(2, v0), (0, v1), (0, v2), (0, v3), (0, v4), (0, v5), zJ, zJ] [] kd m (zqI kd q) := by
  obtain ⟨o1, h⟩ := h
  refine EvX.blk (pc' := 9) [(.aload_n 0, 0, 0), (.getfield 62, 7, 8), (.iload_n 1, 0, 0), (.iload_n 2, 0, 0), (.iload_n 3, 0, 0), (.iload 4, 0, 0)] (by decide +kernel) ⟨g_Ap_62, trivial⟩ ⟨o1, ?_⟩
  show Ev (d + 1) M_Ap_box 0 0 9 [(2, v0), (0, v1), (0, v2), (0, v3), (0, v4), (0, v5), zJ, zJ] [(0, v4), (0, v3), (0, v2), (0, v1), (2, m v0 8)] kd m (zqI kd q)
  obtain ⟨ov, h⟩ := h
  obtain ⟨q1, hq, h⟩ := h
  refine EvX.callV (c := 1) (mc := 0) (ms := 0) (as := [(0, v1), (0, v2), (0, v3), (0, v4)]) (st := []) (by decide +kernel) l_Ap_109 k_Game_hasSpot v_Game_hasSpot a_Game_hasSpot (by decide) (Nat.le_of_ble_eq_true rfl) rfl ov hq (fun r kd1 m3 hr => ?_)
  obtain ⟨x2, rfl, hk, hr⟩ := hr
  subst kd1
  have h := h x2 m3 hr
  show Ev (d + 1) M_Ap_box 0 0 12 [(2, v0), (0, v1), (0, v2), (0, v3), (0, v4), (0, v5), zJ, zJ] [(0, x2)] kd m3 (zqI kd q)
  refine EvX.if_eq (off := 15) (tgt := 27) (by decide +kernel) (by decide) (fun hc => ?_) (fun hc => ?_)
  · have h := h.1 hc
    refine EvX.blk (pc' := 28) [(.iconst (-1), 0, 0)] (by decide +kernel) trivial ?_
    show Ev (d + 1) M_Ap_box 0 0 28 [(2, v0), (0, v1), (0, v2), (0, v3), (0, v4), (0, v5), zJ, zJ] [(0, (-1))] kd m3 (zqI kd q)
    exact EvX.ret (r := (0, (-1))) (by decide +kernel) rfl ⟨_, rfl, rfl, h⟩
  · have h := h.2 hc
    refine EvX.blk (pc' := 17) [(.iload 5, 0, 0)] (by decide +kernel) trivial ?_
    show Ev (d + 1) M_Ap_box 0 0 17 [(2, v0), (0, v1), (0, v2), (0, v3), (0, v4), (0, v5), zJ, zJ] [(0, v5)] kd m3 (zqI kd q)
    refine EvX.if_lt (off := 10) (tgt := 27) (by decide +kernel) (by decide) (fun hc => ?_) (fun hc => ?_)
    · have h := h.1 hc
      refine EvX.blk (pc' := 28) [(.iconst (-1), 0, 0)] (by decide +kernel) trivial ?_
      show Ev (d + 1) M_Ap_box 0 0 28 [(2, v0), (0, v1), (0, v2), (0, v3), (0, v4), (0, v5), zJ, zJ] [(0, (-1))] kd m3 (zqI kd q)
      exact EvX.ret (r := (0, (-1))) (by decide +kernel) rfl ⟨_, rfl, rfl, h⟩
    · have h := h.2 hc
      refine EvX.blk (pc' := 24) [(.iload 5, 0, 0), (.bipush 12, 0, 0)] (by decide +kernel) trivial ?_
      show Ev (d + 1) M_Ap_box 0 0 24 [(2, v0), (0, v1), (0, v2), (0, v3), (0, v4), (0, v5), zJ, zJ] [(0, 12), (0, v5)] kd m3 (zqI kd q)
      refine EvX.icmp_le (off := 5) (tgt := 29) (by decide +kernel) (by decide) (fun hc => ?_) (fun hc => ?_)
      · have h := h.1 hc
        refine EvX.blk (pc' := 35) [(.iconst 0, 0, 0), (.iload_n 1, 0, 0), (.iload_n 2, 0, 0), (.iload_n 3, 0, 0), (.iload 4, 0, 0)] (by decide +kernel) trivial ?_
        show Ev (d + 1) M_Ap_box 0 0 35 [(2, v0), (0, v1), (0, v2), (0, v3), (0, v4), (0, v5), zJ, zJ] [(0, v4), (0, v3), (0, v2), (0, v1), (0, 0)] kd m3 (zqI kd q)
        obtain ⟨q4, hq, h⟩ := h
        refine EvX.callS (mc := 0) (ms := 0) (as := [(0, 0), (0, v1), (0, v2), (0, v3), (0, v4)]) (st := []) (by decide +kernel) l_Ap_113 k_Ap_spotOf s_Ap_spotOf a_Ap_spotOf (by decide) (Nat.le_of_ble_eq_true rfl) hq (fun r kd1 m6 hr => ?_)
        obtain ⟨x5, rfl, hk, hr⟩ := hr
        subst kd1
        have h := h x5 m6 hr
        show Ev (d + 1) M_Ap_box 0 0 38 [(2, v0), (0, v1), (0, v2), (0, v3), (0, v4), (0, v5), zJ, zJ] [(0, x5)] kd m6 (zqI kd q)
        obtain ⟨o1, o2, o3, h⟩ := h
        refine EvX.blk (pc' := 56) [(.istore 6, 0, 0), (.aload_n 0, 0, 0), (.getfield 62, 7, 8), (.getfield 154, 1, 6), (.iload 6, 0, 0), (.iaload, 0, 0), (.istore 7, 0, 0), (.iload 7, 0, 0), (.iload 5, 0, 0)] (by decide +kernel) ⟨g_Ap_62, g_Ap_154, trivial⟩ ⟨o1, o2, o3, ?_⟩
        show Ev (d + 1) M_Ap_box 0 0 56 [(2, v0), (0, v1), (0, v2), (0, v3), (0, v4), (0, v5), (0, x5), (0, m6 (m6 (m6 v0 8) 6) x5)] [(0, v5), (0, m6 (m6 (m6 v0 8) 6) x5)] kd m6 (zqI kd q)
        refine EvX.icmp_ne (off := 6) (tgt := 62) (by decide +kernel) (by decide) (fun hc => ?_) (fun hc => ?_)
        · have h := h.1 hc
          obtain ⟨o1, o2, h⟩ := h
          refine EvX.blk (pc' := 70) [(.aload_n 0, 0, 0), (.getfield 19, 7, 1), (.aload_n 0, 0, 0), (.getfield 62, 7, 8)] (by decide +kernel) ⟨g_Ap_19, g_Ap_62, trivial⟩ ⟨o1, o2, ?_⟩
          show Ev (d + 1) M_Ap_box 0 0 70 [(2, v0), (0, v1), (0, v2), (0, v3), (0, v4), (0, v5), (0, x5), (0, m6 (m6 (m6 v0 8) 6) x5)] [(2, m6 v0 8), (2, m6 v0 1)] kd m6 (zqI kd q)
          obtain ⟨ov, h⟩ := h
          obtain ⟨q7, hq, h⟩ := h
          refine EvX.callV (c := 2) (mc := 0) (ms := 0) (as := [(2, m6 v0 8)]) (st := []) (by decide +kernel) l_Ap_105 k_Past_remember v_Past_remember a_Past_remember (by decide) (Nat.le_of_ble_eq_true rfl) rfl ov hq (fun r kd1 m9 hr => ?_)
          obtain ⟨rfl, hk, hr⟩ := hr
          subst kd1
          have h := h m9 hr
          show Ev (d + 1) M_Ap_box 0 0 73 [(2, v0), (0, v1), (0, v2), (0, v3), (0, v4), (0, v5), (0, x5), (0, m6 (m6 (m6 v0 8) 6) x5)] [] kd m9 (zqI kd q)
          obtain ⟨o1, o2, o3, h⟩ := h
          refine EvX.blk (pc' := 87) [(.aload_n 0, 0, 0), (.getfield 62, 7, 8), (.getfield 154, 1, 6), (.iload 6, 0, 0), (.iload 5, 0, 0), (.iastore, 0, 0), (.iload 7, 0, 0)] (by decide +kernel) ⟨g_Ap_62, g_Ap_154, trivial⟩ ⟨o1, o2, o3, ?_⟩
          show Ev (d + 1) M_Ap_box 0 0 87 [(2, v0), (0, v1), (0, v2), (0, v3), (0, v4), (0, v5), (0, x5), (0, m6 (m6 (m6 v0 8) 6) x5)] [(0, m6 (m6 (m6 v0 8) 6) x5)] kd (zup m9 (m9 (m9 v0 8) 6) x5 v5) (zqI kd q)
          exact EvX.ret (r := (0, m6 (m6 (m6 v0 8) 6) x5)) (by decide +kernel) rfl ⟨_, rfl, rfl, h⟩
        · have h := h.2 hc
          refine EvX.blk (pc' := 61) [(.bipush (-2), 0, 0)] (by decide +kernel) trivial ?_
          show Ev (d + 1) M_Ap_box 0 0 61 [(2, v0), (0, v1), (0, v2), (0, v3), (0, v4), (0, v5), (0, x5), (0, m6 (m6 (m6 v0 8) 6) x5)] [(0, (-2))] kd m6 (zqI kd q)
          exact EvX.ret (r := (0, (-2))) (by decide +kernel) rfl ⟨_, rfl, rfl, h⟩
      · have h := h.2 hc
        refine EvX.blk (pc' := 28) [(.iconst (-1), 0, 0)] (by decide +kernel) trivial ?_
        show Ev (d + 1) M_Ap_box 0 0 28 [(2, v0), (0, v1), (0, v2), (0, v3), (0, v4), (0, v5), zJ, zJ] [(0, (-1))] kd m3 (zqI kd q)
        exact EvX.ret (r := (0, (-1))) (by decide +kernel) rfl ⟨_, rfl, rfl, h⟩
theorem S_Ap_box {d : Nat} {kd : ZK} {m : ZM} {q : Int → ZM → Prop} {v0 v1 v2 v3 v4 v5 : Int} (h : (zobj kd v0 7 ∧ (zobj kd (m v0 8) 1 ∧ ∃ q1, CtI d M_Game_hasSpot [(2, m v0 8), (0, v1), (0, v2), (0, v3), (0, v4)] kd m q1 ∧ ∀ x2 m3, q1 x2 m3 → ((x2 = 0 → q (-1) m3) ∧ (¬ x2 = 0 → ((v5 < 0 → q (-1) m3) ∧ (¬ v5 < 0 → ((v5 ≤ 12 → (∃ q4, CtI d M_Ap_spotOf [(0, 0), (0, v1), (0, v2), (0, v3), (0, v4)] kd m3 q4 ∧ ∀ x5 m6, q4 x5 m6 → (zobj kd v0 7 ∧ zobj kd (m6 v0 8) 1 ∧ zIn kd (m6 (m6 v0 8) 6) 0 x5 ∧ (((m6 (m6 (m6 v0 8) 6) x5) ≠ v5 → (zobj kd v0 7 ∧ zobj kd v0 7 ∧ (zobj kd (m6 v0 1) 2 ∧ ∃ q7, CtV d M_Past_remember [(2, m6 v0 1), (2, m6 v0 8)] kd m6 q7 ∧ ∀ m9, q7 m9 → (zobj kd v0 7 ∧ zobj kd (m9 v0 8) 1 ∧ zIn kd (m9 (m9 v0 8) 6) 0 x5 ∧ q (m6 (m6 (m6 v0 8) 6) x5) (zup m9 (m9 (m9 v0 8) 6) x5 v5))))) ∧ (¬ (m6 (m6 (m6 v0 8) 6) x5) ≠ v5 → q (-2) m6))))) ∧ (¬ v5 ≤ 12 → q (-1) m3))))))))) : CtI (d + 1) M_Ap_box [(2, v0), (0, v1), (0, v2), (0, v3), (0, v4), (0, v5)] kd m q :=
  Ct.start k_Ap_box (Nat.le_of_ble_eq_true rfl) ⟨1, Or.inr (Or.inl ⟨rfl, rfl⟩)⟩ (T_Ap_box_0 h)
set_option maxRecDepth 20000 in
set_option maxHeartbeats 1000000 in
theorem T_Ap_mix_0 {d : Nat} {kd : ZK} {m : ZM} {q : Int → ZM → Prop} {v0 v1 v2 v3 : Int} (h : (zobj kd v0 7 ∧ zobj kd v0 7 ∧ (zobj kd (m v0 3) 0 ∧ ∃ q1, CtI d M_Duo_takeBoth [(2, m v0 3), (2, m v0 8), (0, v1), (0, v2)] kd m q1 ∧ ∀ x2 m3, q1 x2 m3 → ((x2 = 0 → q (-1) m3) ∧ (¬ x2 = 0 → ((v3 < 1 → q (-1) m3) ∧ (¬ v3 < 1 → ((v3 ≤ 12 → (zobj kd v0 7 ∧ zobj kd v0 7 ∧ (zobj kd (m3 v0 3) 0 ∧ ∃ q4, CtI d M_Duo_greatestBox [(2, m3 v0 3), (2, m3 v0 8)] kd m3 q4 ∧ ∀ x5 m6, q4 x5 m6 → (((iw (x5 + v3)) ≤ 12 → (zobj kd v0 7 ∧ zobj kd v0 7 ∧ (zobj kd (m6 v0 1) 2 ∧ ∃ q7, CtV d M_Past_remember [(2, m6 v0 1), (2, m6 v0 8)] kd m6 q7 ∧ ∀ m9, q7 m9 → (zobj kd v0 7 ∧ zobj kd v0 7 ∧ (zobj kd (m9 v0 3) 0 ∧ ∃ q10, CtV d M_Duo_addToBoxes [(2, m9 v0 3), (2, m9 v0 8), (0, v3)] kd m9 q10 ∧ ∀ m12, q10 m12 → q 1 m12))))) ∧ (¬ (iw (x5 + v3)) ≤ 12 → q (-2) m6))))) ∧ (¬ v3 ≤ 12 → q (-1) m3))))))))) : Ev (d + 1) M_Ap_mix 0 0 0 [(2, v0), (0, v1), (0, v2), (0, v3)] [] kd m (zqI kd q) := by
  obtain ⟨o1, o2, h⟩ := h
  refine EvX.blk (pc' := 10) [(.aload_n 0, 0, 0), (.getfield 33, 7, 3), (.aload_n 0, 0, 0), (.getfield 62, 7, 8), (.iload_n 1, 0, 0), (.iload_n 2, 0, 0)] (by decide +kernel) ⟨g_Ap_33, g_Ap_62, trivial⟩ ⟨o1, o2, ?_⟩
  show Ev (d + 1) M_Ap_mix 0 0 10 [(2, v0), (0, v1), (0, v2), (0, v3)] [(0, v2), (0, v1), (2, m v0 8), (2, m v0 3)] kd m (zqI kd q)
  obtain ⟨ov, h⟩ := h
  obtain ⟨q1, hq, h⟩ := h
  refine EvX.callV (c := 0) (mc := 0) (ms := 0) (as := [(2, m v0 8), (0, v1), (0, v2)]) (st := []) (by decide +kernel) l_Ap_157 k_Duo_takeBoth v_Duo_takeBoth a_Duo_takeBoth (by decide) (Nat.le_of_ble_eq_true rfl) rfl ov hq (fun r kd1 m3 hr => ?_)
  obtain ⟨x2, rfl, hk, hr⟩ := hr
  subst kd1
  have h := h x2 m3 hr
  show Ev (d + 1) M_Ap_mix 0 0 13 [(2, v0), (0, v1), (0, v2), (0, v3)] [(0, x2)] kd m3 (zqI kd q)
  refine EvX.if_eq (off := 14) (tgt := 27) (by decide +kernel) (by decide) (fun hc => ?_) (fun hc => ?_)
  · have h := h.1 hc
    refine EvX.blk (pc' := 28) [(.iconst (-1), 0, 0)] (by decide +kernel) trivial ?_
    show Ev (d + 1) M_Ap_mix 0 0 28 [(2, v0), (0, v1), (0, v2), (0, v3)] [(0, (-1))] kd m3 (zqI kd q)
    exact EvX.ret (r := (0, (-1))) (by decide +kernel) rfl ⟨_, rfl, rfl, h⟩
  · have h := h.2 hc
    refine EvX.blk (pc' := 18) [(.iload_n 3, 0, 0), (.iconst 1, 0, 0)] (by decide +kernel) trivial ?_
    show Ev (d + 1) M_Ap_mix 0 0 18 [(2, v0), (0, v1), (0, v2), (0, v3)] [(0, 1), (0, v3)] kd m3 (zqI kd q)
    refine EvX.icmp_lt (off := 9) (tgt := 27) (by decide +kernel) (by decide) (fun hc => ?_) (fun hc => ?_)
    · have h := h.1 hc
      refine EvX.blk (pc' := 28) [(.iconst (-1), 0, 0)] (by decide +kernel) trivial ?_
      show Ev (d + 1) M_Ap_mix 0 0 28 [(2, v0), (0, v1), (0, v2), (0, v3)] [(0, (-1))] kd m3 (zqI kd q)
      exact EvX.ret (r := (0, (-1))) (by decide +kernel) rfl ⟨_, rfl, rfl, h⟩
    · have h := h.2 hc
      refine EvX.blk (pc' := 24) [(.iload_n 3, 0, 0), (.bipush 12, 0, 0)] (by decide +kernel) trivial ?_
      show Ev (d + 1) M_Ap_mix 0 0 24 [(2, v0), (0, v1), (0, v2), (0, v3)] [(0, 12), (0, v3)] kd m3 (zqI kd q)
      refine EvX.icmp_le (off := 5) (tgt := 29) (by decide +kernel) (by decide) (fun hc => ?_) (fun hc => ?_)
      · have h := h.1 hc
        obtain ⟨o1, o2, h⟩ := h
        refine EvX.blk (pc' := 37) [(.aload_n 0, 0, 0), (.getfield 33, 7, 3), (.aload_n 0, 0, 0), (.getfield 62, 7, 8)] (by decide +kernel) ⟨g_Ap_33, g_Ap_62, trivial⟩ ⟨o1, o2, ?_⟩
        show Ev (d + 1) M_Ap_mix 0 0 37 [(2, v0), (0, v1), (0, v2), (0, v3)] [(2, m3 v0 8), (2, m3 v0 3)] kd m3 (zqI kd q)
        obtain ⟨ov, h⟩ := h
        obtain ⟨q4, hq, h⟩ := h
        refine EvX.callV (c := 0) (mc := 0) (ms := 0) (as := [(2, m3 v0 8)]) (st := []) (by decide +kernel) l_Ap_161 k_Duo_greatestBox v_Duo_greatestBox a_Duo_greatestBox (by decide) (Nat.le_of_ble_eq_true rfl) rfl ov hq (fun r kd1 m6 hr => ?_)
        obtain ⟨x5, rfl, hk, hr⟩ := hr
        subst kd1
        have h := h x5 m6 hr
        show Ev (d + 1) M_Ap_mix 0 0 40 [(2, v0), (0, v1), (0, v2), (0, v3)] [(0, x5)] kd m6 (zqI kd q)
        refine EvX.blk (pc' := 44) [(.iload_n 3, 0, 0), (.iadd, 0, 0), (.bipush 12, 0, 0)] (by decide +kernel) trivial ?_
        show Ev (d + 1) M_Ap_mix 0 0 44 [(2, v0), (0, v1), (0, v2), (0, v3)] [(0, 12), (0, iw (x5 + v3))] kd m6 (zqI kd q)
        refine EvX.icmp_le (off := 6) (tgt := 50) (by decide +kernel) (by decide) (fun hc => ?_) (fun hc => ?_)
        · have h := h.1 hc
          obtain ⟨o1, o2, h⟩ := h
          refine EvX.blk (pc' := 58) [(.aload_n 0, 0, 0), (.getfield 19, 7, 1), (.aload_n 0, 0, 0), (.getfield 62, 7, 8)] (by decide +kernel) ⟨g_Ap_19, g_Ap_62, trivial⟩ ⟨o1, o2, ?_⟩
          show Ev (d + 1) M_Ap_mix 0 0 58 [(2, v0), (0, v1), (0, v2), (0, v3)] [(2, m6 v0 8), (2, m6 v0 1)] kd m6 (zqI kd q)
          obtain ⟨ov, h⟩ := h
          obtain ⟨q7, hq, h⟩ := h
          refine EvX.callV (c := 2) (mc := 0) (ms := 0) (as := [(2, m6 v0 8)]) (st := []) (by decide +kernel) l_Ap_105 k_Past_remember v_Past_remember a_Past_remember (by decide) (Nat.le_of_ble_eq_true rfl) rfl ov hq (fun r kd1 m9 hr => ?_)
          obtain ⟨rfl, hk, hr⟩ := hr
          subst kd1
          have h := h m9 hr
          show Ev (d + 1) M_Ap_mix 0 0 61 [(2, v0), (0, v1), (0, v2), (0, v3)] [] kd m9 (zqI kd q)
          obtain ⟨o1, o2, h⟩ := h
          refine EvX.blk (pc' := 70) [(.aload_n 0, 0, 0), (.getfield 33, 7, 3), (.aload_n 0, 0, 0), (.getfield 62, 7, 8), (.iload_n 3, 0, 0)] (by decide +kernel) ⟨g_Ap_33, g_Ap_62, trivial⟩ ⟨o1, o2, ?_⟩
          show Ev (d + 1) M_Ap_mix 0 0 70 [(2, v0), (0, v1), (0, v2), (0, v3)] [(0, v3), (2, m9 v0 8), (2, m9 v0 3)] kd m9 (zqI kd q)
          obtain ⟨ov, h⟩ := h
          obtain ⟨q10, hq, h⟩ := h
          refine EvX.callV (c := 0) (mc := 0) (ms := 0) (as := [(2, m9 v0 8), (0, v3)]) (st := []) (by decide +kernel) l_Ap_164 k_Duo_addToBoxes v_Duo_addToBoxes a_Duo_addToBoxes (by decide) (Nat.le_of_ble_eq_true rfl) rfl ov hq (fun r kd1 m12 hr => ?_)
          obtain ⟨rfl, hk, hr⟩ := hr
          subst kd1
          have h := h m12 hr
          show Ev (d + 1) M_Ap_mix 0 0 73 [(2, v0), (0, v1), (0, v2), (0, v3)] [] kd m12 (zqI kd q)
          refine EvX.blk (pc' := 74) [(.iconst 1, 0, 0)] (by decide +kernel) trivial ?_
          show Ev (d + 1) M_Ap_mix 0 0 74 [(2, v0), (0, v1), (0, v2), (0, v3)] [(0, 1)] kd m12 (zqI kd q)
          exact EvX.ret (r := (0, 1)) (by decide +kernel) rfl ⟨_, rfl, rfl, h⟩
        · have h := h.2 hc
          refine EvX.blk (pc' := 49) [(.bipush (-2), 0, 0)] (by decide +kernel) trivial ?_
          show Ev (d + 1) M_Ap_mix 0 0 49 [(2, v0), (0, v1), (0, v2), (0, v3)] [(0, (-2))] kd m6 (zqI kd q)
          exact EvX.ret (r := (0, (-2))) (by decide +kernel) rfl ⟨_, rfl, rfl, h⟩
      · have h := h.2 hc
        refine EvX.blk (pc' := 28) [(.iconst (-1), 0, 0)] (by decide +kernel) trivial ?_
        show Ev (d + 1) M_Ap_mix 0 0 28 [(2, v0), (0, v1), (0, v2), (0, v3)] [(0, (-1))] kd m3 (zqI kd q)
        exact EvX.ret (r := (0, (-1))) (by decide +kernel) rfl ⟨_, rfl, rfl, h⟩
theorem S_Ap_mix {d : Nat} {kd : ZK} {m : ZM} {q : Int → ZM → Prop} {v0 v1 v2 v3 : Int} (h : (zobj kd v0 7 ∧ zobj kd v0 7 ∧ (zobj kd (m v0 3) 0 ∧ ∃ q1, CtI d M_Duo_takeBoth [(2, m v0 3), (2, m v0 8), (0, v1), (0, v2)] kd m q1 ∧ ∀ x2 m3, q1 x2 m3 → ((x2 = 0 → q (-1) m3) ∧ (¬ x2 = 0 → ((v3 < 1 → q (-1) m3) ∧ (¬ v3 < 1 → ((v3 ≤ 12 → (zobj kd v0 7 ∧ zobj kd v0 7 ∧ (zobj kd (m3 v0 3) 0 ∧ ∃ q4, CtI d M_Duo_greatestBox [(2, m3 v0 3), (2, m3 v0 8)] kd m3 q4 ∧ ∀ x5 m6, q4 x5 m6 → (((iw (x5 + v3)) ≤ 12 → (zobj kd v0 7 ∧ zobj kd v0 7 ∧ (zobj kd (m6 v0 1) 2 ∧ ∃ q7, CtV d M_Past_remember [(2, m6 v0 1), (2, m6 v0 8)] kd m6 q7 ∧ ∀ m9, q7 m9 → (zobj kd v0 7 ∧ zobj kd v0 7 ∧ (zobj kd (m9 v0 3) 0 ∧ ∃ q10, CtV d M_Duo_addToBoxes [(2, m9 v0 3), (2, m9 v0 8), (0, v3)] kd m9 q10 ∧ ∀ m12, q10 m12 → q 1 m12))))) ∧ (¬ (iw (x5 + v3)) ≤ 12 → q (-2) m6))))) ∧ (¬ v3 ≤ 12 → q (-1) m3))))))))) : CtI (d + 1) M_Ap_mix [(2, v0), (0, v1), (0, v2), (0, v3)] kd m q :=
  Ct.start k_Ap_mix (Nat.le_of_ble_eq_true rfl) ⟨1, Or.inr (Or.inl ⟨rfl, rfl⟩)⟩ (T_Ap_mix_0 h)
set_option maxRecDepth 20000 in
set_option maxHeartbeats 1000000 in
theorem T_Ap_draw_0 {d : Nat} {kd : ZK} {m : ZM} {q : Int → ZM → Prop} {v0 v1 : Int} (h : (zobj kd v0 7 ∧ (zobj kd (m v0 8) 1 ∧ ∃ q1, CtI d M_Game_isTold [(2, m v0 8)] kd m q1 ∧ ∀ x2 m3, q1 x2 m3 → ((x2 ≠ 0 → (zobj kd v0 7 ∧ zobj kd v0 7 ∧ (zobj kd (m3 v0 1) 2 ∧ ∃ q4, CtV d M_Past_remember [(2, m3 v0 1), (2, m3 v0 8)] kd m3 q4 ∧ ∀ m6, q4 m6 → (zobj kd v0 7 ∧ (zobj kd (m6 v0 8) 1 ∧ ∃ q7, CtV d M_Game_drawAll [(2, m6 v0 8), (0, v1)] kd m6 q7 ∧ ∀ m9, q7 m9 → (zobj kd v0 7 ∧ (zobj kd (m9 v0 8) 1 ∧ ∃ q10, CtI d M_Game_winningSpots [(2, m9 v0 8)] kd m9 q10 ∧ ∀ x11 m12, q10 x11 m12 → q x11 m12))))))) ∧ (¬ x2 ≠ 0 → q (-1) m3))))) : Ev (d + 1) M_Ap_draw 0 0 0 [(2, v0), (0, v1)] [] kd m (zqI kd q) := by
  obtain ⟨o1, h⟩ := h
  refine EvX.blk (pc' := 4) [(.aload_n 0, 0, 0), (.getfield 62, 7, 8)] (by decide +kernel) ⟨g_Ap_62, trivial⟩ ⟨o1, ?_⟩
  show Ev (d + 1) M_Ap_draw 0 0 4 [(2, v0), (0, v1)] [(2, m v0 8)] kd m (zqI kd q)
  obtain ⟨ov, h⟩ := h
  obtain ⟨q1, hq, h⟩ := h
  refine EvX.callV (c := 1) (mc := 0) (ms := 0) (as := []) (st := []) (by decide +kernel) l_Ap_135 k_Game_isTold v_Game_isTold a_Game_isTold (by decide) (Nat.le_of_ble_eq_true rfl) rfl ov hq (fun r kd1 m3 hr => ?_)
  obtain ⟨x2, rfl, hk, hr⟩ := hr
  subst kd1
  have h := h x2 m3 hr
  show Ev (d + 1) M_Ap_draw 0 0 7 [(2, v0), (0, v1)] [(0, x2)] kd m3 (zqI kd q)
  refine EvX.if_ne (off := 5) (tgt := 12) (by decide +kernel) (by decide) (fun hc => ?_) (fun hc => ?_)
  · have h := h.1 hc
    obtain ⟨o1, o2, h⟩ := h
    refine EvX.blk (pc' := 20) [(.aload_n 0, 0, 0), (.getfield 19, 7, 1), (.aload_n 0, 0, 0), (.getfield 62, 7, 8)] (by decide +kernel) ⟨g_Ap_19, g_Ap_62, trivial⟩ ⟨o1, o2, ?_⟩
    show Ev (d + 1) M_Ap_draw 0 0 20 [(2, v0), (0, v1)] [(2, m3 v0 8), (2, m3 v0 1)] kd m3 (zqI kd q)
    obtain ⟨ov, h⟩ := h
    obtain ⟨q4, hq, h⟩ := h
    refine EvX.callV (c := 2) (mc := 0) (ms := 0) (as := [(2, m3 v0 8)]) (st := []) (by decide +kernel) l_Ap_105 k_Past_remember v_Past_remember a_Past_remember (by decide) (Nat.le_of_ble_eq_true rfl) rfl ov hq (fun r kd1 m6 hr => ?_)
    obtain ⟨rfl, hk, hr⟩ := hr
    subst kd1
    have h := h m6 hr
    show Ev (d + 1) M_Ap_draw 0 0 23 [(2, v0), (0, v1)] [] kd m6 (zqI kd q)
    obtain ⟨o1, h⟩ := h
    refine EvX.blk (pc' := 28) [(.aload_n 0, 0, 0), (.getfield 62, 7, 8), (.iload_n 1, 0, 0)] (by decide +kernel) ⟨g_Ap_62, trivial⟩ ⟨o1, ?_⟩
    show Ev (d + 1) M_Ap_draw 0 0 28 [(2, v0), (0, v1)] [(0, v1), (2, m6 v0 8)] kd m6 (zqI kd q)
    obtain ⟨ov, h⟩ := h
    obtain ⟨q7, hq, h⟩ := h
    refine EvX.callV (c := 1) (mc := 0) (ms := 0) (as := [(0, v1)]) (st := []) (by decide +kernel) l_Ap_168 k_Game_drawAll v_Game_drawAll a_Game_drawAll (by decide) (Nat.le_of_ble_eq_true rfl) rfl ov hq (fun r kd1 m9 hr => ?_)
    obtain ⟨rfl, hk, hr⟩ := hr
    subst kd1
    have h := h m9 hr
    show Ev (d + 1) M_Ap_draw 0 0 31 [(2, v0), (0, v1)] [] kd m9 (zqI kd q)
    obtain ⟨o1, h⟩ := h
    refine EvX.blk (pc' := 35) [(.aload_n 0, 0, 0), (.getfield 62, 7, 8)] (by decide +kernel) ⟨g_Ap_62, trivial⟩ ⟨o1, ?_⟩
    show Ev (d + 1) M_Ap_draw 0 0 35 [(2, v0), (0, v1)] [(2, m9 v0 8)] kd m9 (zqI kd q)
    obtain ⟨ov, h⟩ := h
    obtain ⟨q10, hq, h⟩ := h
    refine EvX.callV (c := 1) (mc := 0) (ms := 0) (as := []) (st := []) (by decide +kernel) l_Ap_171 k_Game_winningSpots v_Game_winningSpots a_Game_winningSpots (by decide) (Nat.le_of_ble_eq_true rfl) rfl ov hq (fun r kd1 m12 hr => ?_)
    obtain ⟨x11, rfl, hk, hr⟩ := hr
    subst kd1
    have h := h x11 m12 hr
    show Ev (d + 1) M_Ap_draw 0 0 38 [(2, v0), (0, v1)] [(0, x11)] kd m12 (zqI kd q)
    exact EvX.ret (r := (0, x11)) (by decide +kernel) rfl ⟨_, rfl, rfl, h⟩
  · have h := h.2 hc
    refine EvX.blk (pc' := 11) [(.iconst (-1), 0, 0)] (by decide +kernel) trivial ?_
    show Ev (d + 1) M_Ap_draw 0 0 11 [(2, v0), (0, v1)] [(0, (-1))] kd m3 (zqI kd q)
    exact EvX.ret (r := (0, (-1))) (by decide +kernel) rfl ⟨_, rfl, rfl, h⟩
theorem S_Ap_draw {d : Nat} {kd : ZK} {m : ZM} {q : Int → ZM → Prop} {v0 v1 : Int} (h : (zobj kd v0 7 ∧ (zobj kd (m v0 8) 1 ∧ ∃ q1, CtI d M_Game_isTold [(2, m v0 8)] kd m q1 ∧ ∀ x2 m3, q1 x2 m3 → ((x2 ≠ 0 → (zobj kd v0 7 ∧ zobj kd v0 7 ∧ (zobj kd (m3 v0 1) 2 ∧ ∃ q4, CtV d M_Past_remember [(2, m3 v0 1), (2, m3 v0 8)] kd m3 q4 ∧ ∀ m6, q4 m6 → (zobj kd v0 7 ∧ (zobj kd (m6 v0 8) 1 ∧ ∃ q7, CtV d M_Game_drawAll [(2, m6 v0 8), (0, v1)] kd m6 q7 ∧ ∀ m9, q7 m9 → (zobj kd v0 7 ∧ (zobj kd (m9 v0 8) 1 ∧ ∃ q10, CtI d M_Game_winningSpots [(2, m9 v0 8)] kd m9 q10 ∧ ∀ x11 m12, q10 x11 m12 → q x11 m12))))))) ∧ (¬ x2 ≠ 0 → q (-1) m3))))) : CtI (d + 1) M_Ap_draw [(2, v0), (0, v1)] kd m q :=
  Ct.start k_Ap_draw (Nat.le_of_ble_eq_true rfl) ⟨1, Or.inr (Or.inl ⟨rfl, rfl⟩)⟩ (T_Ap_draw_0 h)
set_option maxRecDepth 20000 in
set_option maxHeartbeats 1000000 in
theorem T_Ap_undo_0 {d : Nat} {kd : ZK} {m : ZM} {q : Int → ZM → Prop} {v0 : Int} (h : (zobj kd v0 7 ∧ zobj kd (m v0 1) 2 ∧ (((m (m v0 1) 2) ≠ 0 → (zobj kd v0 7 ∧ zobj kd v0 7 ∧ (zobj kd (m v0 1) 2 ∧ ∃ q1, CtV d M_Past_restore [(2, m v0 1), (2, m v0 8)] kd m q1 ∧ ∀ m3, q1 m3 → (zobj kd v0 7 ∧ zobj kd (m3 v0 1) 2 ∧ q (m3 (m3 v0 1) 2) m3)))) ∧ (¬ (m (m v0 1) 2) ≠ 0 → q (-1) m)))) : Ev (d + 1) M_Ap_undo 0 0 0 [(2, v0)] [] kd m (zqI kd q) := by
  obtain ⟨o1, o2, h⟩ := h
  refine EvX.blk (pc' := 7) [(.aload_n 0, 0, 0), (.getfield 19, 7, 1), (.getfield 175, 2, 2)] (by decide +kernel) ⟨g_Ap_19, g_Ap_175, trivial⟩ ⟨o1, o2, ?_⟩
  show Ev (d + 1) M_Ap_undo 0 0 7 [(2, v0)] [(0, m (m v0 1) 2)] kd m (zqI kd q)
  refine EvX.if_ne (off := 5) (tgt := 12) (by decide +kernel) (by decide) (fun hc => ?_) (fun hc => ?_)
  · have h := h.1 hc
    obtain ⟨o1, o2, h⟩ := h
    refine EvX.blk (pc' := 20) [(.aload_n 0, 0, 0), (.getfield 19, 7, 1), (.aload_n 0, 0, 0), (.getfield 62, 7, 8)] (by decide +kernel) ⟨g_Ap_19, g_Ap_62, trivial⟩ ⟨o1, o2, ?_⟩
    show Ev (d + 1) M_Ap_undo 0 0 20 [(2, v0)] [(2, m v0 8), (2, m v0 1)] kd m (zqI kd q)
    obtain ⟨ov, h⟩ := h
    obtain ⟨q1, hq, h⟩ := h
    refine EvX.callV (c := 2) (mc := 0) (ms := 0) (as := [(2, m v0 8)]) (st := []) (by decide +kernel) l_Ap_178 k_Past_restore v_Past_restore a_Past_restore (by decide) (Nat.le_of_ble_eq_true rfl) rfl ov hq (fun r kd1 m3 hr => ?_)
    obtain ⟨rfl, hk, hr⟩ := hr
    subst kd1
    have h := h m3 hr
    show Ev (d + 1) M_Ap_undo 0 0 23 [(2, v0)] [] kd m3 (zqI kd q)
    obtain ⟨o1, o2, h⟩ := h
    refine EvX.blk (pc' := 30) [(.aload_n 0, 0, 0), (.getfield 19, 7, 1), (.getfield 175, 2, 2)] (by decide +kernel) ⟨g_Ap_19, g_Ap_175, trivial⟩ ⟨o1, o2, ?_⟩
    show Ev (d + 1) M_Ap_undo 0 0 30 [(2, v0)] [(0, m3 (m3 v0 1) 2)] kd m3 (zqI kd q)
    exact EvX.ret (r := (0, m3 (m3 v0 1) 2)) (by decide +kernel) rfl ⟨_, rfl, rfl, h⟩
  · have h := h.2 hc
    refine EvX.blk (pc' := 11) [(.iconst (-1), 0, 0)] (by decide +kernel) trivial ?_
    show Ev (d + 1) M_Ap_undo 0 0 11 [(2, v0)] [(0, (-1))] kd m (zqI kd q)
    exact EvX.ret (r := (0, (-1))) (by decide +kernel) rfl ⟨_, rfl, rfl, h⟩
theorem S_Ap_undo {d : Nat} {kd : ZK} {m : ZM} {q : Int → ZM → Prop} {v0 : Int} (h : (zobj kd v0 7 ∧ zobj kd (m v0 1) 2 ∧ (((m (m v0 1) 2) ≠ 0 → (zobj kd v0 7 ∧ zobj kd v0 7 ∧ (zobj kd (m v0 1) 2 ∧ ∃ q1, CtV d M_Past_restore [(2, m v0 1), (2, m v0 8)] kd m q1 ∧ ∀ m3, q1 m3 → (zobj kd v0 7 ∧ zobj kd (m3 v0 1) 2 ∧ q (m3 (m3 v0 1) 2) m3)))) ∧ (¬ (m (m v0 1) 2) ≠ 0 → q (-1) m)))) : CtI (d + 1) M_Ap_undo [(2, v0)] kd m q :=
  Ct.start k_Ap_undo (Nat.le_of_ble_eq_true rfl) ⟨1, Or.inr (Or.inl ⟨rfl, rfl⟩)⟩ (T_Ap_undo_0 h)
set_option maxRecDepth 20000 in
set_option maxHeartbeats 1000000 in
theorem T_Ap_keep_0 {d : Nat} {kd : ZK} {m : ZM} {q : Int → ZM → Prop} {v0 v1 : Int} (h : ((v1 < 0 → q (-1) m) ∧ (¬ v1 < 0 → ((v1 < 2 → (zobj kd v0 7 ∧ zIn kd (m v0 6) 3 v1 ∧ zobj kd v0 7 ∧ (zobj kd (m (m v0 6) v1) 1 ∧ ∃ q1, CtV d M_Game_become [(2, m (m v0 6) v1), (2, m v0 8)] kd m q1 ∧ ∀ m3, q1 m3 → (zobj kd v0 7 ∧ zobj kd v0 7 ∧ zobj kd v0 7 ∧ zobj kd ((zup m3 v0 7 (zor (m3 v0 7) (zshl 1 v1))) v0 8) 1 ∧ q ((zup m3 v0 7 (zor (m3 v0 7) (zshl 1 v1))) ((zup m3 v0 7 (zor (m3 v0 7) (zshl 1 v1))) v0 8) 0) (zup m3 v0 7 (zor (m3 v0 7) (zshl 1 v1))))))) ∧ (¬ v1 < 2 → q (-1) m))))) : Ev (d + 1) M_Ap_keep 0 0 0 [(2, v0), (0, v1)] [] kd m (zqI kd q) := by
  refine EvX.blk (pc' := 1) [(.iload_n 1, 0, 0)] (by decide +kernel) trivial ?_
  show Ev (d + 1) M_Ap_keep 0 0 1 [(2, v0), (0, v1)] [(0, v1)] kd m (zqI kd q)
  refine EvX.if_lt (off := 8) (tgt := 9) (by decide +kernel) (by decide) (fun hc => ?_) (fun hc => ?_)
  · have h := h.1 hc
    refine EvX.blk (pc' := 10) [(.iconst (-1), 0, 0)] (by decide +kernel) trivial ?_
    show Ev (d + 1) M_Ap_keep 0 0 10 [(2, v0), (0, v1)] [(0, (-1))] kd m (zqI kd q)
    exact EvX.ret (r := (0, (-1))) (by decide +kernel) rfl ⟨_, rfl, rfl, h⟩
  · have h := h.2 hc
    refine EvX.blk (pc' := 6) [(.iload_n 1, 0, 0), (.iconst 2, 0, 0)] (by decide +kernel) trivial ?_
    show Ev (d + 1) M_Ap_keep 0 0 6 [(2, v0), (0, v1)] [(0, 2), (0, v1)] kd m (zqI kd q)
    refine EvX.icmp_lt (off := 5) (tgt := 11) (by decide +kernel) (by decide) (fun hc => ?_) (fun hc => ?_)
    · have h := h.1 hc
      obtain ⟨o1, o2, o3, h⟩ := h
      refine EvX.blk (pc' := 21) [(.aload_n 0, 0, 0), (.getfield 54, 7, 6), (.iload_n 1, 0, 0), (.aaload, 0, 0), (.aload_n 0, 0, 0), (.getfield 62, 7, 8)] (by decide +kernel) ⟨g_Ap_54, g_Ap_62, trivial⟩ ⟨o1, o2, o3, ?_⟩
      show Ev (d + 1) M_Ap_keep 0 0 21 [(2, v0), (0, v1)] [(2, m v0 8), (2, m (m v0 6) v1)] kd m (zqI kd q)
      obtain ⟨ov, h⟩ := h
      obtain ⟨q1, hq, h⟩ := h
      refine EvX.callV (c := 1) (mc := 0) (ms := 0) (as := [(2, m v0 8)]) (st := []) (by decide +kernel) l_Ap_181 k_Game_become v_Game_become a_Game_become (by decide) (Nat.le_of_ble_eq_true rfl) rfl ov hq (fun r kd1 m3 hr => ?_)
      obtain ⟨rfl, hk, hr⟩ := hr
      subst kd1
      have h := h m3 hr
      show Ev (d + 1) M_Ap_keep 0 0 24 [(2, v0), (0, v1)] [] kd m3 (zqI kd q)
      obtain ⟨o1, o2, o3, o4, h⟩ := h
      refine EvX.blk (pc' := 43) [(.aload_n 0, 0, 0), (.dup, 0, 0), (.getfield 58, 7, 7), (.iconst 1, 0, 0), (.iload_n 1, 0, 0), (.ishl, 0, 0), (.ior, 0, 0), (.putfield 58, 7, 7), (.aload_n 0, 0, 0), (.getfield 62, 7, 8), (.getfield 90, 1, 0)] (by decide +kernel) ⟨g_Ap_58, ⟨g_Ap_58, p_Ap_58⟩, g_Ap_62, g_Ap_90, trivial⟩ ⟨o1, rfl, o2, o3, o4, ?_⟩
      show Ev (d + 1) M_Ap_keep 0 0 43 [(2, v0), (0, v1)] [(0, (zup m3 v0 7 (zor (m3 v0 7) (zshl 1 v1))) ((zup m3 v0 7 (zor (m3 v0 7) (zshl 1 v1))) v0 8) 0)] kd (zup m3 v0 7 (zor (m3 v0 7) (zshl 1 v1))) (zqI kd q)
      exact EvX.ret (r := (0, (zup m3 v0 7 (zor (m3 v0 7) (zshl 1 v1))) ((zup m3 v0 7 (zor (m3 v0 7) (zshl 1 v1))) v0 8) 0)) (by decide +kernel) rfl ⟨_, rfl, rfl, h⟩
    · have h := h.2 hc
      refine EvX.blk (pc' := 10) [(.iconst (-1), 0, 0)] (by decide +kernel) trivial ?_
      show Ev (d + 1) M_Ap_keep 0 0 10 [(2, v0), (0, v1)] [(0, (-1))] kd m (zqI kd q)
      exact EvX.ret (r := (0, (-1))) (by decide +kernel) rfl ⟨_, rfl, rfl, h⟩
theorem S_Ap_keep {d : Nat} {kd : ZK} {m : ZM} {q : Int → ZM → Prop} {v0 v1 : Int} (h : ((v1 < 0 → q (-1) m) ∧ (¬ v1 < 0 → ((v1 < 2 → (zobj kd v0 7 ∧ zIn kd (m v0 6) 3 v1 ∧ zobj kd v0 7 ∧ (zobj kd (m (m v0 6) v1) 1 ∧ ∃ q1, CtV d M_Game_become [(2, m (m v0 6) v1), (2, m v0 8)] kd m q1 ∧ ∀ m3, q1 m3 → (zobj kd v0 7 ∧ zobj kd v0 7 ∧ zobj kd v0 7 ∧ zobj kd ((zup m3 v0 7 (zor (m3 v0 7) (zshl 1 v1))) v0 8) 1 ∧ q ((zup m3 v0 7 (zor (m3 v0 7) (zshl 1 v1))) ((zup m3 v0 7 (zor (m3 v0 7) (zshl 1 v1))) v0 8) 0) (zup m3 v0 7 (zor (m3 v0 7) (zshl 1 v1))))))) ∧ (¬ v1 < 2 → q (-1) m))))) : CtI (d + 1) M_Ap_keep [(2, v0), (0, v1)] kd m q :=
  Ct.start k_Ap_keep (Nat.le_of_ble_eq_true rfl) ⟨1, Or.inr (Or.inl ⟨rfl, rfl⟩)⟩ (T_Ap_keep_0 h)
set_option maxRecDepth 20000 in
set_option maxHeartbeats 1000000 in
theorem T_Ap_back_0 {d : Nat} {kd : ZK} {m : ZM} {q : Int → ZM → Prop} {v0 v1 : Int} (h : ((v1 < 0 → q (-1) m) ∧ (¬ v1 < 0 → ((v1 < 2 → (zobj kd v0 7 ∧ (((zand (zshr (m v0 7) v1) 1) ≠ 0 → (zobj kd v0 7 ∧ zobj kd v0 7 ∧ zIn kd (m v0 6) 3 v1 ∧ (zobj kd (m v0 8) 1 ∧ ∃ q1, CtV d M_Game_become [(2, m v0 8), (2, m (m v0 6) v1)] kd m q1 ∧ ∀ m3, q1 m3 → (zobj kd v0 7 ∧ (zobj kd (m3 v0 1) 2 ∧ ∃ q4, CtV d M_Past_forget [(2, m3 v0 1)] kd m3 q4 ∧ ∀ m6, q4 m6 → (zobj kd v0 7 ∧ zobj kd (m6 v0 8) 1 ∧ q (m6 (m6 v0 8) 0) m6)))))) ∧ (¬ (zand (zshr (m v0 7) v1) 1) ≠ 0 → q (-2) m)))) ∧ (¬ v1 < 2 → q (-1) m))))) : Ev (d + 1) M_Ap_back 0 0 0 [(2, v0), (0, v1)] [] kd m (zqI kd q) := by
  refine EvX.blk (pc' := 1) [(.iload_n 1, 0, 0)] (by decide +kernel) trivial ?_
  show Ev (d + 1) M_Ap_back 0 0 1 [(2, v0), (0, v1)] [(0, v1)] kd m (zqI kd q)
  refine EvX.if_lt (off := 8) (tgt := 9) (by decide +kernel) (by decide) (fun hc => ?_) (fun hc => ?_)
  · have h := h.1 hc
    refine EvX.blk (pc' := 10) [(.iconst (-1), 0, 0)] (by decide +kernel) trivial ?_
    show Ev (d + 1) M_Ap_back 0 0 10 [(2, v0), (0, v1)] [(0, (-1))] kd m (zqI kd q)
    exact EvX.ret (r := (0, (-1))) (by decide +kernel) rfl ⟨_, rfl, rfl, h⟩
  · have h := h.2 hc
    refine EvX.blk (pc' := 6) [(.iload_n 1, 0, 0), (.iconst 2, 0, 0)] (by decide +kernel) trivial ?_
    show Ev (d + 1) M_Ap_back 0 0 6 [(2, v0), (0, v1)] [(0, 2), (0, v1)] kd m (zqI kd q)
    refine EvX.icmp_lt (off := 5) (tgt := 11) (by decide +kernel) (by decide) (fun hc => ?_) (fun hc => ?_)
    · have h := h.1 hc
      obtain ⟨o1, h⟩ := h
      refine EvX.blk (pc' := 19) [(.aload_n 0, 0, 0), (.getfield 58, 7, 7), (.iload_n 1, 0, 0), (.ishr, 0, 0), (.iconst 1, 0, 0), (.iand, 0, 0)] (by decide +kernel) ⟨g_Ap_58, trivial⟩ ⟨o1, ?_⟩
      show Ev (d + 1) M_Ap_back 0 0 19 [(2, v0), (0, v1)] [(0, zand (zshr (m v0 7) v1) 1)] kd m (zqI kd q)
      refine EvX.if_ne (off := 6) (tgt := 25) (by decide +kernel) (by decide) (fun hc => ?_) (fun hc => ?_)
      · have h := h.1 hc
        obtain ⟨o1, o2, o3, h⟩ := h
        refine EvX.blk (pc' := 35) [(.aload_n 0, 0, 0), (.getfield 62, 7, 8), (.aload_n 0, 0, 0), (.getfield 54, 7, 6), (.iload_n 1, 0, 0), (.aaload, 0, 0)] (by decide +kernel) ⟨g_Ap_62, g_Ap_54, trivial⟩ ⟨o1, o2, o3, ?_⟩
        show Ev (d + 1) M_Ap_back 0 0 35 [(2, v0), (0, v1)] [(2, m (m v0 6) v1), (2, m v0 8)] kd m (zqI kd q)
        obtain ⟨ov, h⟩ := h
        obtain ⟨q1, hq, h⟩ := h
        refine EvX.callV (c := 1) (mc := 0) (ms := 0) (as := [(2, m (m v0 6) v1)]) (st := []) (by decide +kernel) l_Ap_181 k_Game_become v_Game_become a_Game_become (by decide) (Nat.le_of_ble_eq_true rfl) rfl ov hq (fun r kd1 m3 hr => ?_)
        obtain ⟨rfl, hk, hr⟩ := hr
        subst kd1
        have h := h m3 hr
        show Ev (d + 1) M_Ap_back 0 0 38 [(2, v0), (0, v1)] [] kd m3 (zqI kd q)
        obtain ⟨o1, h⟩ := h
        refine EvX.blk (pc' := 42) [(.aload_n 0, 0, 0), (.getfield 19, 7, 1)] (by decide +kernel) ⟨g_Ap_19, trivial⟩ ⟨o1, ?_⟩
        show Ev (d + 1) M_Ap_back 0 0 42 [(2, v0), (0, v1)] [(2, m3 v0 1)] kd m3 (zqI kd q)
        obtain ⟨ov, h⟩ := h
        obtain ⟨q4, hq, h⟩ := h
        refine EvX.callV (c := 2) (mc := 0) (ms := 0) (as := []) (st := []) (by decide +kernel) l_Ap_87 k_Past_forget v_Past_forget a_Past_forget (by decide) (Nat.le_of_ble_eq_true rfl) rfl ov hq (fun r kd1 m6 hr => ?_)
        obtain ⟨rfl, hk, hr⟩ := hr
        subst kd1
        have h := h m6 hr
        show Ev (d + 1) M_Ap_back 0 0 45 [(2, v0), (0, v1)] [] kd m6 (zqI kd q)
        obtain ⟨o1, o2, h⟩ := h
        refine EvX.blk (pc' := 52) [(.aload_n 0, 0, 0), (.getfield 62, 7, 8), (.getfield 90, 1, 0)] (by decide +kernel) ⟨g_Ap_62, g_Ap_90, trivial⟩ ⟨o1, o2, ?_⟩
        show Ev (d + 1) M_Ap_back 0 0 52 [(2, v0), (0, v1)] [(0, m6 (m6 v0 8) 0)] kd m6 (zqI kd q)
        exact EvX.ret (r := (0, m6 (m6 v0 8) 0)) (by decide +kernel) rfl ⟨_, rfl, rfl, h⟩
      · have h := h.2 hc
        refine EvX.blk (pc' := 24) [(.bipush (-2), 0, 0)] (by decide +kernel) trivial ?_
        show Ev (d + 1) M_Ap_back 0 0 24 [(2, v0), (0, v1)] [(0, (-2))] kd m (zqI kd q)
        exact EvX.ret (r := (0, (-2))) (by decide +kernel) rfl ⟨_, rfl, rfl, h⟩
    · have h := h.2 hc
      refine EvX.blk (pc' := 10) [(.iconst (-1), 0, 0)] (by decide +kernel) trivial ?_
      show Ev (d + 1) M_Ap_back 0 0 10 [(2, v0), (0, v1)] [(0, (-1))] kd m (zqI kd q)
      exact EvX.ret (r := (0, (-1))) (by decide +kernel) rfl ⟨_, rfl, rfl, h⟩
theorem S_Ap_back {d : Nat} {kd : ZK} {m : ZM} {q : Int → ZM → Prop} {v0 v1 : Int} (h : ((v1 < 0 → q (-1) m) ∧ (¬ v1 < 0 → ((v1 < 2 → (zobj kd v0 7 ∧ (((zand (zshr (m v0 7) v1) 1) ≠ 0 → (zobj kd v0 7 ∧ zobj kd v0 7 ∧ zIn kd (m v0 6) 3 v1 ∧ (zobj kd (m v0 8) 1 ∧ ∃ q1, CtV d M_Game_become [(2, m v0 8), (2, m (m v0 6) v1)] kd m q1 ∧ ∀ m3, q1 m3 → (zobj kd v0 7 ∧ (zobj kd (m3 v0 1) 2 ∧ ∃ q4, CtV d M_Past_forget [(2, m3 v0 1)] kd m3 q4 ∧ ∀ m6, q4 m6 → (zobj kd v0 7 ∧ zobj kd (m6 v0 8) 1 ∧ q (m6 (m6 v0 8) 0) m6)))))) ∧ (¬ (zand (zshr (m v0 7) v1) 1) ≠ 0 → q (-2) m)))) ∧ (¬ v1 < 2 → q (-1) m))))) : CtI (d + 1) M_Ap_back [(2, v0), (0, v1)] kd m q :=
  Ct.start k_Ap_back (Nat.le_of_ble_eq_true rfl) ⟨1, Or.inr (Or.inl ⟨rfl, rfl⟩)⟩ (T_Ap_back_0 h)
set_option maxRecDepth 20000 in
set_option maxHeartbeats 1000000 in
theorem T_Ap_wins_0 {d : Nat} {kd : ZK} {m : ZM} {q : Int → ZM → Prop} {v0 v1 v2 v3 v4 : Int} (h : (zobj kd v0 7 ∧ (zobj kd (m v0 8) 1 ∧ ∃ q1, CtI d M_Game_hasSpot [(2, m v0 8), (0, v1), (0, v2), (0, v3), (0, v4)] kd m q1 ∧ ∀ x2 m3, q1 x2 m3 → ((x2 = 0 → q (-1) m3) ∧ (¬ x2 = 0 → (zobj kd v0 7 ∧ zobj kd (m3 v0 8) 1 ∧ (∃ q4, CtI d M_Ap_spotOf [(0, 0), (0, v1), (0, v2), (0, v3), (0, v4)] kd m3 q4 ∧ ∀ x5 m6, q4 x5 m6 → (zIn kd (m3 (m3 v0 8) 5) 0 x5 ∧ q (m6 (m3 (m3 v0 8) 5) x5) m6)))))))) : Ev (d + 1) M_Ap_wins 0 0 0 [(2, v0), (0, v1), (0, v2), (0, v3), (0, v4)] [] kd m (zqI kd q) := by
  obtain ⟨o1, h⟩ := h
  refine EvX.blk (pc' := 9) [(.aload_n 0, 0, 0), (.getfield 62, 7, 8), (.iload_n 1, 0, 0), (.iload_n 2, 0, 0), (.iload_n 3, 0, 0), (.iload 4, 0, 0)] (by decide +kernel) ⟨g_Ap_62, trivial⟩ ⟨o1, ?_⟩
  show Ev (d + 1) M_Ap_wins 0 0 9 [(2, v0), (0, v1), (0, v2), (0, v3), (0, v4)] [(0, v4), (0, v3), (0, v2), (0, v1), (2, m v0 8)] kd m (zqI kd q)
  obtain ⟨ov, h⟩ := h
  obtain ⟨q1, hq, h⟩ := h
  refine EvX.callV (c := 1) (mc := 0) (ms := 0) (as := [(0, v1), (0, v2), (0, v3), (0, v4)]) (st := []) (by decide +kernel) l_Ap_109 k_Game_hasSpot v_Game_hasSpot a_Game_hasSpot (by decide) (Nat.le_of_ble_eq_true rfl) rfl ov hq (fun r kd1 m3 hr => ?_)
  obtain ⟨x2, rfl, hk, hr⟩ := hr
  subst kd1
  have h := h x2 m3 hr
  show Ev (d + 1) M_Ap_wins 0 0 12 [(2, v0), (0, v1), (0, v2), (0, v3), (0, v4)] [(0, x2)] kd m3 (zqI kd q)
  refine EvX.if_eq (off := 23) (tgt := 35) (by decide +kernel) (by decide) (fun hc => ?_) (fun hc => ?_)
  · have h := h.1 hc
    refine EvX.blk (pc' := 36) [(.iconst (-1), 0, 0)] (by decide +kernel) trivial ?_
    show Ev (d + 1) M_Ap_wins 0 0 36 [(2, v0), (0, v1), (0, v2), (0, v3), (0, v4)] [(0, (-1))] kd m3 (zqI kd q)
    exact EvX.ret (r := (0, (-1))) (by decide +kernel) rfl ⟨_, rfl, rfl, h⟩
  · have h := h.2 hc
    obtain ⟨o1, o2, h⟩ := h
    refine EvX.blk (pc' := 28) [(.aload_n 0, 0, 0), (.getfield 62, 7, 8), (.getfield 117, 1, 5), (.iconst 0, 0, 0), (.iload_n 1, 0, 0), (.iload_n 2, 0, 0), (.iload_n 3, 0, 0), (.iload 4, 0, 0)] (by decide +kernel) ⟨g_Ap_62, g_Ap_117, trivial⟩ ⟨o1, o2, ?_⟩
    show Ev (d + 1) M_Ap_wins 0 0 28 [(2, v0), (0, v1), (0, v2), (0, v3), (0, v4)] [(0, v4), (0, v3), (0, v2), (0, v1), (0, 0), (2, m3 (m3 v0 8) 5)] kd m3 (zqI kd q)
    obtain ⟨q4, hq, h⟩ := h
    refine EvX.callS (mc := 0) (ms := 0) (as := [(0, 0), (0, v1), (0, v2), (0, v3), (0, v4)]) (st := [(2, m3 (m3 v0 8) 5)]) (by decide +kernel) l_Ap_113 k_Ap_spotOf s_Ap_spotOf a_Ap_spotOf (by decide) (Nat.le_of_ble_eq_true rfl) hq (fun r kd1 m6 hr => ?_)
    obtain ⟨x5, rfl, hk, hr⟩ := hr
    subst kd1
    have h := h x5 m6 hr
    show Ev (d + 1) M_Ap_wins 0 0 31 [(2, v0), (0, v1), (0, v2), (0, v3), (0, v4)] [(0, x5), (2, m3 (m3 v0 8) 5)] kd m6 (zqI kd q)
    obtain ⟨o1, h⟩ := h
    refine EvX.blk (pc' := 32) [(.iaload, 0, 0)] (by decide +kernel) trivial ⟨o1, ?_⟩
    show Ev (d + 1) M_Ap_wins 0 0 32 [(2, v0), (0, v1), (0, v2), (0, v3), (0, v4)] [(0, m6 (m3 (m3 v0 8) 5) x5)] kd m6 (zqI kd q)
    refine EvX.goto (off := 4) (tgt := 36) (by decide +kernel) (by decide) ?_
    exact EvX.ret (r := (0, m6 (m3 (m3 v0 8) 5) x5)) (by decide +kernel) rfl ⟨_, rfl, rfl, h⟩
theorem S_Ap_wins {d : Nat} {kd : ZK} {m : ZM} {q : Int → ZM → Prop} {v0 v1 v2 v3 v4 : Int} (h : (zobj kd v0 7 ∧ (zobj kd (m v0 8) 1 ∧ ∃ q1, CtI d M_Game_hasSpot [(2, m v0 8), (0, v1), (0, v2), (0, v3), (0, v4)] kd m q1 ∧ ∀ x2 m3, q1 x2 m3 → ((x2 = 0 → q (-1) m3) ∧ (¬ x2 = 0 → (zobj kd v0 7 ∧ zobj kd (m3 v0 8) 1 ∧ (∃ q4, CtI d M_Ap_spotOf [(0, 0), (0, v1), (0, v2), (0, v3), (0, v4)] kd m3 q4 ∧ ∀ x5 m6, q4 x5 m6 → (zIn kd (m3 (m3 v0 8) 5) 0 x5 ∧ q (m6 (m3 (m3 v0 8) 5) x5) m6)))))))) : CtI (d + 1) M_Ap_wins [(2, v0), (0, v1), (0, v2), (0, v3), (0, v4)] kd m q :=
  Ct.start k_Ap_wins (Nat.le_of_ble_eq_true rfl) ⟨1, Or.inr (Or.inl ⟨rfl, rfl⟩)⟩ (T_Ap_wins_0 h)
set_option maxRecDepth 20000 in
set_option maxHeartbeats 1000000 in
theorem T_Ap_weight_0 {d : Nat} {kd : ZK} {m : ZM} {q : Int → ZM → Prop} {v0 v1 v2 : Int} (h : (zobj kd v0 7 ∧ (zobj kd (m v0 8) 1 ∧ ∃ q1, CtI d M_Game_hasCell [(2, m v0 8), (0, v1), (0, v2)] kd m q1 ∧ ∀ x2 m3, q1 x2 m3 → ((x2 = 0 → q (-1) m3) ∧ (¬ x2 = 0 → (zobj kd v0 7 ∧ zobj kd (m3 v0 8) 1 ∧ (∃ q4, CtI d M_Ap_cellOf [(0, 0), (0, v1), (0, v2)] kd m3 q4 ∧ ∀ x5 m6, q4 x5 m6 → (zIn kd (m3 (m3 v0 8) 4) 0 x5 ∧ q (m6 (m3 (m3 v0 8) 4) x5) m6)))))))) : Ev (d + 1) M_Ap_weight 0 0 0 [(2, v0), (0, v1), (0, v2)] [] kd m (zqI kd q) := by
  obtain ⟨o1, h⟩ := h
  refine EvX.blk (pc' := 6) [(.aload_n 0, 0, 0), (.getfield 62, 7, 8), (.iload_n 1, 0, 0), (.iload_n 2, 0, 0)] (by decide +kernel) ⟨g_Ap_62, trivial⟩ ⟨o1, ?_⟩
  show Ev (d + 1) M_Ap_weight 0 0 6 [(2, v0), (0, v1), (0, v2)] [(0, v2), (0, v1), (2, m v0 8)] kd m (zqI kd q)
  obtain ⟨ov, h⟩ := h
  obtain ⟨q1, hq, h⟩ := h
  refine EvX.callV (c := 1) (mc := 0) (ms := 0) (as := [(0, v1), (0, v2)]) (st := []) (by decide +kernel) l_Ap_93 k_Game_hasCell v_Game_hasCell a_Game_hasCell (by decide) (Nat.le_of_ble_eq_true rfl) rfl ov hq (fun r kd1 m3 hr => ?_)
  obtain ⟨x2, rfl, hk, hr⟩ := hr
  subst kd1
  have h := h x2 m3 hr
  show Ev (d + 1) M_Ap_weight 0 0 9 [(2, v0), (0, v1), (0, v2)] [(0, x2)] kd m3 (zqI kd q)
  refine EvX.if_eq (off := 20) (tgt := 29) (by decide +kernel) (by decide) (fun hc => ?_) (fun hc => ?_)
  · have h := h.1 hc
    refine EvX.blk (pc' := 30) [(.iconst (-1), 0, 0)] (by decide +kernel) trivial ?_
    show Ev (d + 1) M_Ap_weight 0 0 30 [(2, v0), (0, v1), (0, v2)] [(0, (-1))] kd m3 (zqI kd q)
    exact EvX.ret (r := (0, (-1))) (by decide +kernel) rfl ⟨_, rfl, rfl, h⟩
  · have h := h.2 hc
    obtain ⟨o1, o2, h⟩ := h
    refine EvX.blk (pc' := 22) [(.aload_n 0, 0, 0), (.getfield 62, 7, 8), (.getfield 101, 1, 4), (.iconst 0, 0, 0), (.iload_n 1, 0, 0), (.iload_n 2, 0, 0)] (by decide +kernel) ⟨g_Ap_62, g_Ap_101, trivial⟩ ⟨o1, o2, ?_⟩
    show Ev (d + 1) M_Ap_weight 0 0 22 [(2, v0), (0, v1), (0, v2)] [(0, v2), (0, v1), (0, 0), (2, m3 (m3 v0 8) 4)] kd m3 (zqI kd q)
    obtain ⟨q4, hq, h⟩ := h
    refine EvX.callS (mc := 0) (ms := 0) (as := [(0, 0), (0, v1), (0, v2)]) (st := [(2, m3 (m3 v0 8) 4)]) (by decide +kernel) l_Ap_97 k_Ap_cellOf s_Ap_cellOf a_Ap_cellOf (by decide) (Nat.le_of_ble_eq_true rfl) hq (fun r kd1 m6 hr => ?_)
    obtain ⟨x5, rfl, hk, hr⟩ := hr
    subst kd1
    have h := h x5 m6 hr
    show Ev (d + 1) M_Ap_weight 0 0 25 [(2, v0), (0, v1), (0, v2)] [(0, x5), (2, m3 (m3 v0 8) 4)] kd m6 (zqI kd q)
    obtain ⟨o1, h⟩ := h
    refine EvX.blk (pc' := 26) [(.iaload, 0, 0)] (by decide +kernel) trivial ⟨o1, ?_⟩
    show Ev (d + 1) M_Ap_weight 0 0 26 [(2, v0), (0, v1), (0, v2)] [(0, m6 (m3 (m3 v0 8) 4) x5)] kd m6 (zqI kd q)
    refine EvX.goto (off := 4) (tgt := 30) (by decide +kernel) (by decide) ?_
    exact EvX.ret (r := (0, m6 (m3 (m3 v0 8) 4) x5)) (by decide +kernel) rfl ⟨_, rfl, rfl, h⟩
theorem S_Ap_weight {d : Nat} {kd : ZK} {m : ZM} {q : Int → ZM → Prop} {v0 v1 v2 : Int} (h : (zobj kd v0 7 ∧ (zobj kd (m v0 8) 1 ∧ ∃ q1, CtI d M_Game_hasCell [(2, m v0 8), (0, v1), (0, v2)] kd m q1 ∧ ∀ x2 m3, q1 x2 m3 → ((x2 = 0 → q (-1) m3) ∧ (¬ x2 = 0 → (zobj kd v0 7 ∧ zobj kd (m3 v0 8) 1 ∧ (∃ q4, CtI d M_Ap_cellOf [(0, 0), (0, v1), (0, v2)] kd m3 q4 ∧ ∀ x5 m6, q4 x5 m6 → (zIn kd (m3 (m3 v0 8) 4) 0 x5 ∧ q (m6 (m3 (m3 v0 8) 4) x5) m6)))))))) : CtI (d + 1) M_Ap_weight [(2, v0), (0, v1), (0, v2)] kd m q :=
  Ct.start k_Ap_weight (Nat.le_of_ble_eq_true rfl) ⟨1, Or.inr (Or.inl ⟨rfl, rfl⟩)⟩ (T_Ap_weight_0 h)
set_option maxRecDepth 20000 in
set_option maxHeartbeats 1000000 in
theorem T_Ap_worth_0 {d : Nat} {kd : ZK} {m : ZM} {q : Int → ZM → Prop} {v0 v1 : Int} (h : (zobj kd v0 7 ∧ (zobj kd (m v0 8) 1 ∧ ∃ q1, CtI d M_Game_isTold [(2, m v0 8)] kd m q1 ∧ ∀ x2 m3, q1 x2 m3 → ((x2 ≠ 0 → (((v1 < 0 ∨ 4 < v1) → q (-1) m3) ∧ (v1 = 0 → (zobj kd v0 7 ∧ (zobj kd v0 7 ∧ ∃ q4, CtI d M_Ap_mostOf [(2, v0), (2, m3 v0 8)] kd m3 q4 ∧ ∀ x5 m6, q4 x5 m6 → q x5 m6))) ∧ (v1 = 1 → (zobj kd v0 7 ∧ (zobj kd (m3 v0 8) 1 ∧ ∃ q7, CtI d M_Game_weightTogether [(2, m3 v0 8)] kd m3 q7 ∧ ∀ x8 m9, q7 x8 m9 → q x8 m9))) ∧ (v1 = 2 → (zobj kd v0 7 ∧ zobj kd v0 7 ∧ (zobj kd (m3 v0 2) 5 ∧ ∃ q10, CtV d M_Table_loadSome [(2, m3 v0 2), (2, m3 v0 8), (0, 0), (0, 31)] kd m3 q10 ∧ ∀ m12, q10 m12 → (zobj kd v0 7 ∧ (zobj kd (m12 v0 2) 5 ∧ ∃ q13, CtI d M_Table_leastLow [(2, m12 v0 2)] kd m12 q13 ∧ ∀ x14 m15, q13 x14 m15 → q x14 m15))))) ∧ (v1 = 3 → (zobj kd v0 7 ∧ zobj kd v0 7 ∧ (zobj kd (m3 v0 2) 5 ∧ ∃ q16, CtV d M_Table_loadSome [(2, m3 v0 2), (2, m3 v0 8), (0, 0), (0, 31)] kd m3 q16 ∧ ∀ m18, q16 m18 → (zobj kd v0 7 ∧ (zobj kd (m18 v0 2) 5 ∧ ∃ q19, CtI d M_Table_mostLow [(2, m18 v0 2)] kd m18 q19 ∧ ∀ x20 m21, q19 x20 m21 → q x20 m21))))) ∧ (v1 = 4 → (zobj kd v0 7 ∧ zobj kd v0 7 ∧ (zobj kd (m3 v0 2) 5 ∧ ∃ q22, CtV d M_Table_loadSome [(2, m3 v0 2), (2, m3 v0 8), (0, 1), (0, 31)] kd m3 q22 ∧ ∀ m24, q22 m24 → (zobj kd v0 7 ∧ (zobj kd (m24 v0 2) 5 ∧ ∃ q25, CtI d M_Table_mostLow [(2, m24 v0 2)] kd m24 q25 ∧ ∀ x26 m27, q25 x26 m27 → q x26 m27))))))) ∧ (¬ x2 ≠ 0 → q (-1) m3))))) : Ev (d + 1) M_Ap_worth 0 0 0 [(2, v0), (0, v1)] [] kd m (zqI kd q) := by
  obtain ⟨o1, h⟩ := h
  refine EvX.blk (pc' := 4) [(.aload_n 0, 0, 0), (.getfield 62, 7, 8)] (by decide +kernel) ⟨g_Ap_62, trivial⟩ ⟨o1, ?_⟩
  show Ev (d + 1) M_Ap_worth 0 0 4 [(2, v0), (0, v1)] [(2, m v0 8)] kd m (zqI kd q)
  obtain ⟨ov, h⟩ := h
  obtain ⟨q1, hq, h⟩ := h
  refine EvX.callV (c := 1) (mc := 0) (ms := 0) (as := []) (st := []) (by decide +kernel) l_Ap_135 k_Game_isTold v_Game_isTold a_Game_isTold (by decide) (Nat.le_of_ble_eq_true rfl) rfl ov hq (fun r kd1 m3 hr => ?_)
  obtain ⟨x2, rfl, hk, hr⟩ := hr
  subst kd1
  have h := h x2 m3 hr
  show Ev (d + 1) M_Ap_worth 0 0 7 [(2, v0), (0, v1)] [(0, x2)] kd m3 (zqI kd q)
  refine EvX.if_ne (off := 5) (tgt := 12) (by decide +kernel) (by decide) (fun hc => ?_) (fun hc => ?_)
  · have h := h.1 hc
    refine EvX.blk (pc' := 13) [(.iload_n 1, 0, 0)] (by decide +kernel) trivial ?_
    show Ev (d + 1) M_Ap_worth 0 0 13 [(2, v0), (0, v1)] [(0, v1)] kd m3 (zqI kd q)
    refine EvX.tsw (dflt := 118) (lo := 0) (hi := 4) (offs := #[35, 44, 52, 74, 96]) (len := 35) (n := 5) (df := 131) (tgt := fun k => match k with | 0 => 48 | 1 => 57 | 2 => 65 | 3 => 87 | 4 => 109 | _ => 131) (by decide +kernel) (by decide) (by decide) (by decide) (fun hc => ?_) (fun hc => ?_)
    · have h := h.1 hc
      refine EvX.blk (pc' := 132) [(.iconst (-1), 0, 0)] (by decide +kernel) trivial ?_
      show Ev (d + 1) M_Ap_worth 0 0 132 [(2, v0), (0, v1)] [(0, (-1))] kd m3 (zqI kd q)
      exact EvX.ret (r := (0, (-1))) (by decide +kernel) rfl ⟨_, rfl, rfl, h⟩
    · have h := h.2
      rcases (show v1 = 0 ∨ v1 = 1 ∨ v1 = 2 ∨ v1 = 3 ∨ v1 = 4 by omega) with hk | hk | hk | hk | hk
      · have h := h.1 hk
        have ek : (v1 - 0).toNat = 0 := by omega
        rw [ek]
        show Ev (d + 1) M_Ap_worth 0 0 48 [(2, v0), (0, v1)] [] kd m3 (zqI kd q)
        obtain ⟨o1, h⟩ := h
        refine EvX.blk (pc' := 53) [(.aload_n 0, 0, 0), (.aload_n 0, 0, 0), (.getfield 62, 7, 8)] (by decide +kernel) ⟨g_Ap_62, trivial⟩ ⟨o1, ?_⟩
        show Ev (d + 1) M_Ap_worth 0 0 53 [(2, v0), (0, v1)] [(2, m3 v0 8), (2, v0)] kd m3 (zqI kd q)
        obtain ⟨ov, h⟩ := h
        obtain ⟨q4, hq, h⟩ := h
        refine EvX.callV (c := 7) (mc := 0) (ms := 0) (as := [(2, m3 v0 8)]) (st := []) (by decide +kernel) l_Ap_184 k_Ap_mostOf v_Ap_mostOf a_Ap_mostOf (by decide) (Nat.le_of_ble_eq_true rfl) rfl ov hq (fun r kd1 m6 hr => ?_)
        obtain ⟨x5, rfl, hk, hr⟩ := hr
        subst kd1
        have h := h x5 m6 hr
        show Ev (d + 1) M_Ap_worth 0 0 56 [(2, v0), (0, v1)] [(0, x5)] kd m6 (zqI kd q)
        exact EvX.ret (r := (0, x5)) (by decide +kernel) rfl ⟨_, rfl, rfl, h⟩
      · have h := h.2.1 hk
        have ek : (v1 - 0).toNat = 1 := by omega
        rw [ek]
        show Ev (d + 1) M_Ap_worth 0 0 57 [(2, v0), (0, v1)] [] kd m3 (zqI kd q)
        obtain ⟨o1, h⟩ := h
        refine EvX.blk (pc' := 61) [(.aload_n 0, 0, 0), (.getfield 62, 7, 8)] (by decide +kernel) ⟨g_Ap_62, trivial⟩ ⟨o1, ?_⟩
        show Ev (d + 1) M_Ap_worth 0 0 61 [(2, v0), (0, v1)] [(2, m3 v0 8)] kd m3 (zqI kd q)
        obtain ⟨ov, h⟩ := h
        obtain ⟨q7, hq, h⟩ := h
        refine EvX.callV (c := 1) (mc := 0) (ms := 0) (as := []) (st := []) (by decide +kernel) l_Ap_187 k_Game_weightTogether v_Game_weightTogether a_Game_weightTogether (by decide) (Nat.le_of_ble_eq_true rfl) rfl ov hq (fun r kd1 m9 hr => ?_)
        obtain ⟨x8, rfl, hk, hr⟩ := hr
        subst kd1
        have h := h x8 m9 hr
        show Ev (d + 1) M_Ap_worth 0 0 64 [(2, v0), (0, v1)] [(0, x8)] kd m9 (zqI kd q)
        exact EvX.ret (r := (0, x8)) (by decide +kernel) rfl ⟨_, rfl, rfl, h⟩
      · have h := h.2.2.1 hk
        have ek : (v1 - 0).toNat = 2 := by omega
        rw [ek]
        show Ev (d + 1) M_Ap_worth 0 0 65 [(2, v0), (0, v1)] [] kd m3 (zqI kd q)
        obtain ⟨o1, o2, h⟩ := h
        refine EvX.blk (pc' := 76) [(.aload_n 0, 0, 0), (.getfield 26, 7, 2), (.aload_n 0, 0, 0), (.getfield 62, 7, 8), (.iconst 0, 0, 0), (.bipush 31, 0, 0)] (by decide +kernel) ⟨g_Ap_26, g_Ap_62, trivial⟩ ⟨o1, o2, ?_⟩
        show Ev (d + 1) M_Ap_worth 0 0 76 [(2, v0), (0, v1)] [(0, 31), (0, 0), (2, m3 v0 8), (2, m3 v0 2)] kd m3 (zqI kd q)
        obtain ⟨ov, h⟩ := h
        obtain ⟨q10, hq, h⟩ := h
        refine EvX.callV (c := 5) (mc := 0) (ms := 0) (as := [(2, m3 v0 8), (0, 0), (0, 31)]) (st := []) (by decide +kernel) l_Ap_190 k_Table_loadSome v_Table_loadSome a_Table_loadSome (by decide) (Nat.le_of_ble_eq_true rfl) rfl ov hq (fun r kd1 m12 hr => ?_)
        obtain ⟨rfl, hk, hr⟩ := hr
        subst kd1
        have h := h m12 hr
        show Ev (d + 1) M_Ap_worth 0 0 79 [(2, v0), (0, v1)] [] kd m12 (zqI kd q)
        obtain ⟨o1, h⟩ := h
        refine EvX.blk (pc' := 83) [(.aload_n 0, 0, 0), (.getfield 26, 7, 2)] (by decide +kernel) ⟨g_Ap_26, trivial⟩ ⟨o1, ?_⟩
        show Ev (d + 1) M_Ap_worth 0 0 83 [(2, v0), (0, v1)] [(2, m12 v0 2)] kd m12 (zqI kd q)
        obtain ⟨ov, h⟩ := h
        obtain ⟨q13, hq, h⟩ := h
        refine EvX.callV (c := 5) (mc := 0) (ms := 0) (as := []) (st := []) (by decide +kernel) l_Ap_194 k_Table_leastLow v_Table_leastLow a_Table_leastLow (by decide) (Nat.le_of_ble_eq_true rfl) rfl ov hq (fun r kd1 m15 hr => ?_)
        obtain ⟨x14, rfl, hk, hr⟩ := hr
        subst kd1
        have h := h x14 m15 hr
        show Ev (d + 1) M_Ap_worth 0 0 86 [(2, v0), (0, v1)] [(0, x14)] kd m15 (zqI kd q)
        exact EvX.ret (r := (0, x14)) (by decide +kernel) rfl ⟨_, rfl, rfl, h⟩
      · have h := h.2.2.2.1 hk
        have ek : (v1 - 0).toNat = 3 := by omega
        rw [ek]
        show Ev (d + 1) M_Ap_worth 0 0 87 [(2, v0), (0, v1)] [] kd m3 (zqI kd q)
        obtain ⟨o1, o2, h⟩ := h
        refine EvX.blk (pc' := 98) [(.aload_n 0, 0, 0), (.getfield 26, 7, 2), (.aload_n 0, 0, 0), (.getfield 62, 7, 8), (.iconst 0, 0, 0), (.bipush 31, 0, 0)] (by decide +kernel) ⟨g_Ap_26, g_Ap_62, trivial⟩ ⟨o1, o2, ?_⟩
        show Ev (d + 1) M_Ap_worth 0 0 98 [(2, v0), (0, v1)] [(0, 31), (0, 0), (2, m3 v0 8), (2, m3 v0 2)] kd m3 (zqI kd q)
        obtain ⟨ov, h⟩ := h
        obtain ⟨q16, hq, h⟩ := h
        refine EvX.callV (c := 5) (mc := 0) (ms := 0) (as := [(2, m3 v0 8), (0, 0), (0, 31)]) (st := []) (by decide +kernel) l_Ap_190 k_Table_loadSome v_Table_loadSome a_Table_loadSome (by decide) (Nat.le_of_ble_eq_true rfl) rfl ov hq (fun r kd1 m18 hr => ?_)
        obtain ⟨rfl, hk, hr⟩ := hr
        subst kd1
        have h := h m18 hr
        show Ev (d + 1) M_Ap_worth 0 0 101 [(2, v0), (0, v1)] [] kd m18 (zqI kd q)
        obtain ⟨o1, h⟩ := h
        refine EvX.blk (pc' := 105) [(.aload_n 0, 0, 0), (.getfield 26, 7, 2)] (by decide +kernel) ⟨g_Ap_26, trivial⟩ ⟨o1, ?_⟩
        show Ev (d + 1) M_Ap_worth 0 0 105 [(2, v0), (0, v1)] [(2, m18 v0 2)] kd m18 (zqI kd q)
        obtain ⟨ov, h⟩ := h
        obtain ⟨q19, hq, h⟩ := h
        refine EvX.callV (c := 5) (mc := 0) (ms := 0) (as := []) (st := []) (by decide +kernel) l_Ap_197 k_Table_mostLow v_Table_mostLow a_Table_mostLow (by decide) (Nat.le_of_ble_eq_true rfl) rfl ov hq (fun r kd1 m21 hr => ?_)
        obtain ⟨x20, rfl, hk, hr⟩ := hr
        subst kd1
        have h := h x20 m21 hr
        show Ev (d + 1) M_Ap_worth 0 0 108 [(2, v0), (0, v1)] [(0, x20)] kd m21 (zqI kd q)
        exact EvX.ret (r := (0, x20)) (by decide +kernel) rfl ⟨_, rfl, rfl, h⟩
      · have h := h.2.2.2.2 hk
        have ek : (v1 - 0).toNat = 4 := by omega
        rw [ek]
        show Ev (d + 1) M_Ap_worth 0 0 109 [(2, v0), (0, v1)] [] kd m3 (zqI kd q)
        obtain ⟨o1, o2, h⟩ := h
        refine EvX.blk (pc' := 120) [(.aload_n 0, 0, 0), (.getfield 26, 7, 2), (.aload_n 0, 0, 0), (.getfield 62, 7, 8), (.iconst 1, 0, 0), (.bipush 31, 0, 0)] (by decide +kernel) ⟨g_Ap_26, g_Ap_62, trivial⟩ ⟨o1, o2, ?_⟩
        show Ev (d + 1) M_Ap_worth 0 0 120 [(2, v0), (0, v1)] [(0, 31), (0, 1), (2, m3 v0 8), (2, m3 v0 2)] kd m3 (zqI kd q)
        obtain ⟨ov, h⟩ := h
        obtain ⟨q22, hq, h⟩ := h
        refine EvX.callV (c := 5) (mc := 0) (ms := 0) (as := [(2, m3 v0 8), (0, 1), (0, 31)]) (st := []) (by decide +kernel) l_Ap_190 k_Table_loadSome v_Table_loadSome a_Table_loadSome (by decide) (Nat.le_of_ble_eq_true rfl) rfl ov hq (fun r kd1 m24 hr => ?_)
        obtain ⟨rfl, hk, hr⟩ := hr
        subst kd1
        have h := h m24 hr
        show Ev (d + 1) M_Ap_worth 0 0 123 [(2, v0), (0, v1)] [] kd m24 (zqI kd q)
        obtain ⟨o1, h⟩ := h
        refine EvX.blk (pc' := 127) [(.aload_n 0, 0, 0), (.getfield 26, 7, 2)] (by decide +kernel) ⟨g_Ap_26, trivial⟩ ⟨o1, ?_⟩
        show Ev (d + 1) M_Ap_worth 0 0 127 [(2, v0), (0, v1)] [(2, m24 v0 2)] kd m24 (zqI kd q)
        obtain ⟨ov, h⟩ := h
        obtain ⟨q25, hq, h⟩ := h
        refine EvX.callV (c := 5) (mc := 0) (ms := 0) (as := []) (st := []) (by decide +kernel) l_Ap_197 k_Table_mostLow v_Table_mostLow a_Table_mostLow (by decide) (Nat.le_of_ble_eq_true rfl) rfl ov hq (fun r kd1 m27 hr => ?_)
        obtain ⟨x26, rfl, hk, hr⟩ := hr
        subst kd1
        have h := h x26 m27 hr
        show Ev (d + 1) M_Ap_worth 0 0 130 [(2, v0), (0, v1)] [(0, x26)] kd m27 (zqI kd q)
        exact EvX.ret (r := (0, x26)) (by decide +kernel) rfl ⟨_, rfl, rfl, h⟩
  · have h := h.2 hc
    refine EvX.blk (pc' := 11) [(.iconst (-1), 0, 0)] (by decide +kernel) trivial ?_
    show Ev (d + 1) M_Ap_worth 0 0 11 [(2, v0), (0, v1)] [(0, (-1))] kd m3 (zqI kd q)
    exact EvX.ret (r := (0, (-1))) (by decide +kernel) rfl ⟨_, rfl, rfl, h⟩
theorem S_Ap_worth {d : Nat} {kd : ZK} {m : ZM} {q : Int → ZM → Prop} {v0 v1 : Int} (h : (zobj kd v0 7 ∧ (zobj kd (m v0 8) 1 ∧ ∃ q1, CtI d M_Game_isTold [(2, m v0 8)] kd m q1 ∧ ∀ x2 m3, q1 x2 m3 → ((x2 ≠ 0 → (((v1 < 0 ∨ 4 < v1) → q (-1) m3) ∧ (v1 = 0 → (zobj kd v0 7 ∧ (zobj kd v0 7 ∧ ∃ q4, CtI d M_Ap_mostOf [(2, v0), (2, m3 v0 8)] kd m3 q4 ∧ ∀ x5 m6, q4 x5 m6 → q x5 m6))) ∧ (v1 = 1 → (zobj kd v0 7 ∧ (zobj kd (m3 v0 8) 1 ∧ ∃ q7, CtI d M_Game_weightTogether [(2, m3 v0 8)] kd m3 q7 ∧ ∀ x8 m9, q7 x8 m9 → q x8 m9))) ∧ (v1 = 2 → (zobj kd v0 7 ∧ zobj kd v0 7 ∧ (zobj kd (m3 v0 2) 5 ∧ ∃ q10, CtV d M_Table_loadSome [(2, m3 v0 2), (2, m3 v0 8), (0, 0), (0, 31)] kd m3 q10 ∧ ∀ m12, q10 m12 → (zobj kd v0 7 ∧ (zobj kd (m12 v0 2) 5 ∧ ∃ q13, CtI d M_Table_leastLow [(2, m12 v0 2)] kd m12 q13 ∧ ∀ x14 m15, q13 x14 m15 → q x14 m15))))) ∧ (v1 = 3 → (zobj kd v0 7 ∧ zobj kd v0 7 ∧ (zobj kd (m3 v0 2) 5 ∧ ∃ q16, CtV d M_Table_loadSome [(2, m3 v0 2), (2, m3 v0 8), (0, 0), (0, 31)] kd m3 q16 ∧ ∀ m18, q16 m18 → (zobj kd v0 7 ∧ (zobj kd (m18 v0 2) 5 ∧ ∃ q19, CtI d M_Table_mostLow [(2, m18 v0 2)] kd m18 q19 ∧ ∀ x20 m21, q19 x20 m21 → q x20 m21))))) ∧ (v1 = 4 → (zobj kd v0 7 ∧ zobj kd v0 7 ∧ (zobj kd (m3 v0 2) 5 ∧ ∃ q22, CtV d M_Table_loadSome [(2, m3 v0 2), (2, m3 v0 8), (0, 1), (0, 31)] kd m3 q22 ∧ ∀ m24, q22 m24 → (zobj kd v0 7 ∧ (zobj kd (m24 v0 2) 5 ∧ ∃ q25, CtI d M_Table_mostLow [(2, m24 v0 2)] kd m24 q25 ∧ ∀ x26 m27, q25 x26 m27 → q x26 m27))))))) ∧ (¬ x2 ≠ 0 → q (-1) m3))))) : CtI (d + 1) M_Ap_worth [(2, v0), (0, v1)] kd m q :=
  Ct.start k_Ap_worth (Nat.le_of_ble_eq_true rfl) ⟨1, Or.inr (Or.inl ⟨rfl, rfl⟩)⟩ (T_Ap_worth_0 h)
set_option maxRecDepth 20000 in
set_option maxHeartbeats 1000000 in
theorem T_Ap_sure_0 {d : Nat} {kd : ZK} {m : ZM} {q : Int → ZM → Prop} {v0 v1 : Int} (h : (zobj kd v0 7 ∧ (zobj kd (m v0 8) 1 ∧ ∃ q1, CtI d M_Game_isTold [(2, m v0 8)] kd m q1 ∧ ∀ x2 m3, q1 x2 m3 → ((x2 = 0 → q (-1) m3) ∧ (¬ x2 = 0 → (∃ q4, CtI d M_Ap_isPlayer [(0, v1)] kd m3 q4 ∧ ∀ x5 m6, q4 x5 m6 → ((x5 ≠ 0 → (zobj kd v0 7 ∧ zobj kd v0 7 ∧ (zobj kd (m6 v0 2) 5 ∧ ∃ q7, CtV d M_Table_loadSome [(2, m6 v0 2), (2, m6 v0 8), (0, v1), (0, 31)] kd m6 q7 ∧ ∀ m9, q7 m9 → (zobj kd v0 7 ∧ zobj kd v0 7 ∧ (zobj kd (m9 v0 2) 5 ∧ ∃ q10, CtI d M_Table_mostLow [(2, m9 v0 2)] kd m9 q10 ∧ ∀ x11 m12, q10 x11 m12 → (zobj kd (m9 v0 2) 5 ∧ ∃ q13, CtI d M_Table_firstRowOfLow [(2, m9 v0 2), (0, x11)] kd m12 q13 ∧ ∀ x14 m15, q13 x14 m15 → q x14 m15)))))) ∧ (¬ x5 ≠ 0 → q (-1) m6)))))))) : Ev (d + 1) M_Ap_sure 0 0 0 [(2, v0), (0, v1)] [] kd m (zqI kd q) := by
  obtain ⟨o1, h⟩ := h
  refine EvX.blk (pc' := 4) [(.aload_n 0, 0, 0), (.getfield 62, 7, 8)] (by decide +kernel) ⟨g_Ap_62, trivial⟩ ⟨o1, ?_⟩
  show Ev (d + 1) M_Ap_sure 0 0 4 [(2, v0), (0, v1)] [(2, m v0 8)] kd m (zqI kd q)
  obtain ⟨ov, h⟩ := h
  obtain ⟨q1, hq, h⟩ := h
  refine EvX.callV (c := 1) (mc := 0) (ms := 0) (as := []) (st := []) (by decide +kernel) l_Ap_135 k_Game_isTold v_Game_isTold a_Game_isTold (by decide) (Nat.le_of_ble_eq_true rfl) rfl ov hq (fun r kd1 m3 hr => ?_)
  obtain ⟨x2, rfl, hk, hr⟩ := hr
  subst kd1
  have h := h x2 m3 hr
  show Ev (d + 1) M_Ap_sure 0 0 7 [(2, v0), (0, v1)] [(0, x2)] kd m3 (zqI kd q)
  refine EvX.if_eq (off := 10) (tgt := 17) (by decide +kernel) (by decide) (fun hc => ?_) (fun hc => ?_)
  · have h := h.1 hc
    refine EvX.blk (pc' := 18) [(.iconst (-1), 0, 0)] (by decide +kernel) trivial ?_
    show Ev (d + 1) M_Ap_sure 0 0 18 [(2, v0), (0, v1)] [(0, (-1))] kd m3 (zqI kd q)
    exact EvX.ret (r := (0, (-1))) (by decide +kernel) rfl ⟨_, rfl, rfl, h⟩
  · have h := h.2 hc
    refine EvX.blk (pc' := 11) [(.iload_n 1, 0, 0)] (by decide +kernel) trivial ?_
    show Ev (d + 1) M_Ap_sure 0 0 11 [(2, v0), (0, v1)] [(0, v1)] kd m3 (zqI kd q)
    obtain ⟨q4, hq, h⟩ := h
    refine EvX.callS (mc := 0) (ms := 0) (as := [(0, v1)]) (st := []) (by decide +kernel) l_Ap_200 k_Ap_isPlayer s_Ap_isPlayer a_Ap_isPlayer (by decide) (Nat.le_of_ble_eq_true rfl) hq (fun r kd1 m6 hr => ?_)
    obtain ⟨x5, rfl, hk, hr⟩ := hr
    subst kd1
    have h := h x5 m6 hr
    show Ev (d + 1) M_Ap_sure 0 0 14 [(2, v0), (0, v1)] [(0, x5)] kd m6 (zqI kd q)
    refine EvX.if_ne (off := 5) (tgt := 19) (by decide +kernel) (by decide) (fun hc => ?_) (fun hc => ?_)
    · have h := h.1 hc
      obtain ⟨o1, o2, h⟩ := h
      refine EvX.blk (pc' := 30) [(.aload_n 0, 0, 0), (.getfield 26, 7, 2), (.aload_n 0, 0, 0), (.getfield 62, 7, 8), (.iload_n 1, 0, 0), (.bipush 31, 0, 0)] (by decide +kernel) ⟨g_Ap_26, g_Ap_62, trivial⟩ ⟨o1, o2, ?_⟩
      show Ev (d + 1) M_Ap_sure 0 0 30 [(2, v0), (0, v1)] [(0, 31), (0, v1), (2, m6 v0 8), (2, m6 v0 2)] kd m6 (zqI kd q)
      obtain ⟨ov, h⟩ := h
      obtain ⟨q7, hq, h⟩ := h
      refine EvX.callV (c := 5) (mc := 0) (ms := 0) (as := [(2, m6 v0 8), (0, v1), (0, 31)]) (st := []) (by decide +kernel) l_Ap_190 k_Table_loadSome v_Table_loadSome a_Table_loadSome (by decide) (Nat.le_of_ble_eq_true rfl) rfl ov hq (fun r kd1 m9 hr => ?_)
      obtain ⟨rfl, hk, hr⟩ := hr
      subst kd1
      have h := h m9 hr
      show Ev (d + 1) M_Ap_sure 0 0 33 [(2, v0), (0, v1)] [] kd m9 (zqI kd q)
      obtain ⟨o1, o2, h⟩ := h
      refine EvX.blk (pc' := 41) [(.aload_n 0, 0, 0), (.getfield 26, 7, 2), (.aload_n 0, 0, 0), (.getfield 26, 7, 2)] (by decide +kernel) ⟨g_Ap_26, g_Ap_26, trivial⟩ ⟨o1, o2, ?_⟩
      show Ev (d + 1) M_Ap_sure 0 0 41 [(2, v0), (0, v1)] [(2, m9 v0 2), (2, m9 v0 2)] kd m9 (zqI kd q)
      obtain ⟨ov, h⟩ := h
      obtain ⟨q10, hq, h⟩ := h
      refine EvX.callV (c := 5) (mc := 0) (ms := 0) (as := []) (st := [(2, m9 v0 2)]) (by decide +kernel) l_Ap_197 k_Table_mostLow v_Table_mostLow a_Table_mostLow (by decide) (Nat.le_of_ble_eq_true rfl) rfl ov hq (fun r kd1 m12 hr => ?_)
      obtain ⟨x11, rfl, hk, hr⟩ := hr
      subst kd1
      have h := h x11 m12 hr
      show Ev (d + 1) M_Ap_sure 0 0 44 [(2, v0), (0, v1)] [(0, x11), (2, m9 v0 2)] kd m12 (zqI kd q)
      obtain ⟨ov, h⟩ := h
      obtain ⟨q13, hq, h⟩ := h
      refine EvX.callV (c := 5) (mc := 0) (ms := 0) (as := [(0, x11)]) (st := []) (by decide +kernel) l_Ap_204 k_Table_firstRowOfLow v_Table_firstRowOfLow a_Table_firstRowOfLow (by decide) (Nat.le_of_ble_eq_true rfl) rfl ov hq (fun r kd1 m15 hr => ?_)
      obtain ⟨x14, rfl, hk, hr⟩ := hr
      subst kd1
      have h := h x14 m15 hr
      show Ev (d + 1) M_Ap_sure 0 0 47 [(2, v0), (0, v1)] [(0, x14)] kd m15 (zqI kd q)
      exact EvX.ret (r := (0, x14)) (by decide +kernel) rfl ⟨_, rfl, rfl, h⟩
    · have h := h.2 hc
      refine EvX.blk (pc' := 18) [(.iconst (-1), 0, 0)] (by decide +kernel) trivial ?_
      show Ev (d + 1) M_Ap_sure 0 0 18 [(2, v0), (0, v1)] [(0, (-1))] kd m6 (zqI kd q)
      exact EvX.ret (r := (0, (-1))) (by decide +kernel) rfl ⟨_, rfl, rfl, h⟩
theorem S_Ap_sure {d : Nat} {kd : ZK} {m : ZM} {q : Int → ZM → Prop} {v0 v1 : Int} (h : (zobj kd v0 7 ∧ (zobj kd (m v0 8) 1 ∧ ∃ q1, CtI d M_Game_isTold [(2, m v0 8)] kd m q1 ∧ ∀ x2 m3, q1 x2 m3 → ((x2 = 0 → q (-1) m3) ∧ (¬ x2 = 0 → (∃ q4, CtI d M_Ap_isPlayer [(0, v1)] kd m3 q4 ∧ ∀ x5 m6, q4 x5 m6 → ((x5 ≠ 0 → (zobj kd v0 7 ∧ zobj kd v0 7 ∧ (zobj kd (m6 v0 2) 5 ∧ ∃ q7, CtV d M_Table_loadSome [(2, m6 v0 2), (2, m6 v0 8), (0, v1), (0, 31)] kd m6 q7 ∧ ∀ m9, q7 m9 → (zobj kd v0 7 ∧ zobj kd v0 7 ∧ (zobj kd (m9 v0 2) 5 ∧ ∃ q10, CtI d M_Table_mostLow [(2, m9 v0 2)] kd m9 q10 ∧ ∀ x11 m12, q10 x11 m12 → (zobj kd (m9 v0 2) 5 ∧ ∃ q13, CtI d M_Table_firstRowOfLow [(2, m9 v0 2), (0, x11)] kd m12 q13 ∧ ∀ x14 m15, q13 x14 m15 → q x14 m15)))))) ∧ (¬ x5 ≠ 0 → q (-1) m6)))))))) : CtI (d + 1) M_Ap_sure [(2, v0), (0, v1)] kd m q :=
  Ct.start k_Ap_sure (Nat.le_of_ble_eq_true rfl) ⟨1, Or.inr (Or.inl ⟨rfl, rfl⟩)⟩ (T_Ap_sure_0 h)
set_option maxRecDepth 20000 in
set_option maxHeartbeats 1000000 in
theorem T_Ap_play_0 {d : Nat} {kd : ZK} {m : ZM} {q : Int → ZM → Prop} {v0 v1 v2 : Int} (h : (zobj kd v0 7 ∧ zobj kd v0 7 ∧ (zobj kd (m v0 3) 0 ∧ ∃ q1, CtI d M_Duo_takeBoth [(2, m v0 3), (2, m v0 8), (0, v1), (0, v2)] kd m q1 ∧ ∀ x2 m3, q1 x2 m3 → ((x2 = 0 → q (-1) m3) ∧ (¬ x2 = 0 → (zobj kd v0 7 ∧ zobj kd v0 7 ∧ (zobj kd (m3 v0 3) 0 ∧ ∃ q4, CtI d M_Duo_worthBoth [(2, m3 v0 3), (2, m3 v0 8)] kd m3 q4 ∧ ∀ x5 m6, q4 x5 m6 → q x5 m6))))))) : Ev (d + 1) M_Ap_play 0 0 0 [(2, v0), (0, v1), (0, v2)] [] kd m (zqI kd q) := by
  obtain ⟨o1, o2, h⟩ := h
  refine EvX.blk (pc' := 10) [(.aload_n 0, 0, 0), (.getfield 33, 7, 3), (.aload_n 0, 0, 0), (.getfield 62, 7, 8), (.iload_n 1, 0, 0), (.iload_n 2, 0, 0)] (by decide +kernel) ⟨g_Ap_33, g_Ap_62, trivial⟩ ⟨o1, o2, ?_⟩
  show Ev (d + 1) M_Ap_play 0 0 10 [(2, v0), (0, v1), (0, v2)] [(0, v2), (0, v1), (2, m v0 8), (2, m v0 3)] kd m (zqI kd q)
  obtain ⟨ov, h⟩ := h
  obtain ⟨q1, hq, h⟩ := h
  refine EvX.callV (c := 0) (mc := 0) (ms := 0) (as := [(2, m v0 8), (0, v1), (0, v2)]) (st := []) (by decide +kernel) l_Ap_157 k_Duo_takeBoth v_Duo_takeBoth a_Duo_takeBoth (by decide) (Nat.le_of_ble_eq_true rfl) rfl ov hq (fun r kd1 m3 hr => ?_)
  obtain ⟨x2, rfl, hk, hr⟩ := hr
  subst kd1
  have h := h x2 m3 hr
  show Ev (d + 1) M_Ap_play 0 0 13 [(2, v0), (0, v1), (0, v2)] [(0, x2)] kd m3 (zqI kd q)
  refine EvX.if_eq (off := 17) (tgt := 30) (by decide +kernel) (by decide) (fun hc => ?_) (fun hc => ?_)
  · have h := h.1 hc
    refine EvX.blk (pc' := 31) [(.iconst (-1), 0, 0)] (by decide +kernel) trivial ?_
    show Ev (d + 1) M_Ap_play 0 0 31 [(2, v0), (0, v1), (0, v2)] [(0, (-1))] kd m3 (zqI kd q)
    exact EvX.ret (r := (0, (-1))) (by decide +kernel) rfl ⟨_, rfl, rfl, h⟩
  · have h := h.2 hc
    obtain ⟨o1, o2, h⟩ := h
    refine EvX.blk (pc' := 24) [(.aload_n 0, 0, 0), (.getfield 33, 7, 3), (.aload_n 0, 0, 0), (.getfield 62, 7, 8)] (by decide +kernel) ⟨g_Ap_33, g_Ap_62, trivial⟩ ⟨o1, o2, ?_⟩
    show Ev (d + 1) M_Ap_play 0 0 24 [(2, v0), (0, v1), (0, v2)] [(2, m3 v0 8), (2, m3 v0 3)] kd m3 (zqI kd q)
    obtain ⟨ov, h⟩ := h
    obtain ⟨q4, hq, h⟩ := h
    refine EvX.callV (c := 0) (mc := 0) (ms := 0) (as := [(2, m3 v0 8)]) (st := []) (by decide +kernel) l_Ap_207 k_Duo_worthBoth v_Duo_worthBoth a_Duo_worthBoth (by decide) (Nat.le_of_ble_eq_true rfl) rfl ov hq (fun r kd1 m6 hr => ?_)
    obtain ⟨x5, rfl, hk, hr⟩ := hr
    subst kd1
    have h := h x5 m6 hr
    show Ev (d + 1) M_Ap_play 0 0 27 [(2, v0), (0, v1), (0, v2)] [(0, x5)] kd m6 (zqI kd q)
    refine EvX.goto (off := 4) (tgt := 31) (by decide +kernel) (by decide) ?_
    exact EvX.ret (r := (0, x5)) (by decide +kernel) rfl ⟨_, rfl, rfl, h⟩
theorem S_Ap_play {d : Nat} {kd : ZK} {m : ZM} {q : Int → ZM → Prop} {v0 v1 v2 : Int} (h : (zobj kd v0 7 ∧ zobj kd v0 7 ∧ (zobj kd (m v0 3) 0 ∧ ∃ q1, CtI d M_Duo_takeBoth [(2, m v0 3), (2, m v0 8), (0, v1), (0, v2)] kd m q1 ∧ ∀ x2 m3, q1 x2 m3 → ((x2 = 0 → q (-1) m3) ∧ (¬ x2 = 0 → (zobj kd v0 7 ∧ zobj kd v0 7 ∧ (zobj kd (m3 v0 3) 0 ∧ ∃ q4, CtI d M_Duo_worthBoth [(2, m3 v0 3), (2, m3 v0 8)] kd m3 q4 ∧ ∀ x5 m6, q4 x5 m6 → q x5 m6))))))) : CtI (d + 1) M_Ap_play [(2, v0), (0, v1), (0, v2)] kd m q :=
  Ct.start k_Ap_play (Nat.le_of_ble_eq_true rfl) ⟨1, Or.inr (Or.inl ⟨rfl, rfl⟩)⟩ (T_Ap_play_0 h)
set_option maxRecDepth 20000 in
set_option maxHeartbeats 1000000 in
theorem T_Ap_hangs_0 {d : Nat} {kd : ZK} {m : ZM} {q : Int → ZM → Prop} {v0 v1 v2 : Int} (h : (zobj kd v0 7 ∧ zobj kd v0 7 ∧ (zobj kd (m v0 3) 0 ∧ ∃ q1, CtI d M_Duo_take [(2, m v0 3), (2, m v0 8), (0, 0), (0, v1)] kd m q1 ∧ ∀ x2 m3, q1 x2 m3 → ((x2 = 0 → q (-1) m3) ∧ (¬ x2 = 0 → (zobj kd v0 7 ∧ (zobj kd (m3 v0 8) 1 ∧ ∃ q4, CtI d M_Game_hasQuestion [(2, m3 v0 8), (0, 1), (0, v2)] kd m3 q4 ∧ ∀ x5 m6, q4 x5 m6 → ((x5 ≠ 0 → (zobj kd v0 7 ∧ zobj kd v0 7 ∧ (zobj kd (m6 v0 3) 0 ∧ ∃ q7, CtI d M_Duo_spanAt [(2, m6 v0 3), (2, m6 v0 8), (0, v2)] kd m6 q7 ∧ ∀ x8 m9, q7 x8 m9 → q x8 m9))) ∧ (¬ x5 ≠ 0 → q (-1) m6))))))))) : Ev (d + 1) M_Ap_hangs 0 0 0 [(2, v0), (0, v1), (0, v2)] [] kd m (zqI kd q) := by
  obtain ⟨o1, o2, h⟩ := h
  refine EvX.blk (pc' := 10) [(.aload_n 0, 0, 0), (.getfield 33, 7, 3), (.aload_n 0, 0, 0), (.getfield 62, 7, 8), (.iconst 0, 0, 0), (.iload_n 1, 0, 0)] (by decide +kernel) ⟨g_Ap_33, g_Ap_62, trivial⟩ ⟨o1, o2, ?_⟩
  show Ev (d + 1) M_Ap_hangs 0 0 10 [(2, v0), (0, v1), (0, v2)] [(0, v1), (0, 0), (2, m v0 8), (2, m v0 3)] kd m (zqI kd q)
  obtain ⟨ov, h⟩ := h
  obtain ⟨q1, hq, h⟩ := h
  refine EvX.callV (c := 0) (mc := 0) (ms := 0) (as := [(2, m v0 8), (0, 0), (0, v1)]) (st := []) (by decide +kernel) l_Ap_210 k_Duo_take v_Duo_take a_Duo_take (by decide) (Nat.le_of_ble_eq_true rfl) rfl ov hq (fun r kd1 m3 hr => ?_)
  obtain ⟨x2, rfl, hk, hr⟩ := hr
  subst kd1
  have h := h x2 m3 hr
  show Ev (d + 1) M_Ap_hangs 0 0 13 [(2, v0), (0, v1), (0, v2)] [(0, x2)] kd m3 (zqI kd q)
  refine EvX.if_eq (off := 15) (tgt := 28) (by decide +kernel) (by decide) (fun hc => ?_) (fun hc => ?_)
  · have h := h.1 hc
    refine EvX.blk (pc' := 29) [(.iconst (-1), 0, 0)] (by decide +kernel) trivial ?_
    show Ev (d + 1) M_Ap_hangs 0 0 29 [(2, v0), (0, v1), (0, v2)] [(0, (-1))] kd m3 (zqI kd q)
    exact EvX.ret (r := (0, (-1))) (by decide +kernel) rfl ⟨_, rfl, rfl, h⟩
  · have h := h.2 hc
    obtain ⟨o1, h⟩ := h
    refine EvX.blk (pc' := 22) [(.aload_n 0, 0, 0), (.getfield 62, 7, 8), (.iconst 1, 0, 0), (.iload_n 2, 0, 0)] (by decide +kernel) ⟨g_Ap_62, trivial⟩ ⟨o1, ?_⟩
    show Ev (d + 1) M_Ap_hangs 0 0 22 [(2, v0), (0, v1), (0, v2)] [(0, v2), (0, 1), (2, m3 v0 8)] kd m3 (zqI kd q)
    obtain ⟨ov, h⟩ := h
    obtain ⟨q4, hq, h⟩ := h
    refine EvX.callV (c := 1) (mc := 0) (ms := 0) (as := [(0, 1), (0, v2)]) (st := []) (by decide +kernel) l_Ap_141 k_Game_hasQuestion v_Game_hasQuestion a_Game_hasQuestion (by decide) (Nat.le_of_ble_eq_true rfl) rfl ov hq (fun r kd1 m6 hr => ?_)
    obtain ⟨x5, rfl, hk, hr⟩ := hr
    subst kd1
    have h := h x5 m6 hr
    show Ev (d + 1) M_Ap_hangs 0 0 25 [(2, v0), (0, v1), (0, v2)] [(0, x5)] kd m6 (zqI kd q)
    refine EvX.if_ne (off := 5) (tgt := 30) (by decide +kernel) (by decide) (fun hc => ?_) (fun hc => ?_)
    · have h := h.1 hc
      obtain ⟨o1, o2, h⟩ := h
      refine EvX.blk (pc' := 39) [(.aload_n 0, 0, 0), (.getfield 33, 7, 3), (.aload_n 0, 0, 0), (.getfield 62, 7, 8), (.iload_n 2, 0, 0)] (by decide +kernel) ⟨g_Ap_33, g_Ap_62, trivial⟩ ⟨o1, o2, ?_⟩
      show Ev (d + 1) M_Ap_hangs 0 0 39 [(2, v0), (0, v1), (0, v2)] [(0, v2), (2, m6 v0 8), (2, m6 v0 3)] kd m6 (zqI kd q)
      obtain ⟨ov, h⟩ := h
      obtain ⟨q7, hq, h⟩ := h
      refine EvX.callV (c := 0) (mc := 0) (ms := 0) (as := [(2, m6 v0 8), (0, v2)]) (st := []) (by decide +kernel) l_Ap_213 k_Duo_spanAt v_Duo_spanAt a_Duo_spanAt (by decide) (Nat.le_of_ble_eq_true rfl) rfl ov hq (fun r kd1 m9 hr => ?_)
      obtain ⟨x8, rfl, hk, hr⟩ := hr
      subst kd1
      have h := h x8 m9 hr
      show Ev (d + 1) M_Ap_hangs 0 0 42 [(2, v0), (0, v1), (0, v2)] [(0, x8)] kd m9 (zqI kd q)
      exact EvX.ret (r := (0, x8)) (by decide +kernel) rfl ⟨_, rfl, rfl, h⟩
    · have h := h.2 hc
      refine EvX.blk (pc' := 29) [(.iconst (-1), 0, 0)] (by decide +kernel) trivial ?_
      show Ev (d + 1) M_Ap_hangs 0 0 29 [(2, v0), (0, v1), (0, v2)] [(0, (-1))] kd m6 (zqI kd q)
      exact EvX.ret (r := (0, (-1))) (by decide +kernel) rfl ⟨_, rfl, rfl, h⟩
theorem S_Ap_hangs {d : Nat} {kd : ZK} {m : ZM} {q : Int → ZM → Prop} {v0 v1 v2 : Int} (h : (zobj kd v0 7 ∧ zobj kd v0 7 ∧ (zobj kd (m v0 3) 0 ∧ ∃ q1, CtI d M_Duo_take [(2, m v0 3), (2, m v0 8), (0, 0), (0, v1)] kd m q1 ∧ ∀ x2 m3, q1 x2 m3 → ((x2 = 0 → q (-1) m3) ∧ (¬ x2 = 0 → (zobj kd v0 7 ∧ (zobj kd (m3 v0 8) 1 ∧ ∃ q4, CtI d M_Game_hasQuestion [(2, m3 v0 8), (0, 1), (0, v2)] kd m3 q4 ∧ ∀ x5 m6, q4 x5 m6 → ((x5 ≠ 0 → (zobj kd v0 7 ∧ zobj kd v0 7 ∧ (zobj kd (m6 v0 3) 0 ∧ ∃ q7, CtI d M_Duo_spanAt [(2, m6 v0 3), (2, m6 v0 8), (0, v2)] kd m6 q7 ∧ ∀ x8 m9, q7 x8 m9 → q x8 m9))) ∧ (¬ x5 ≠ 0 → q (-1) m6))))))))) : CtI (d + 1) M_Ap_hangs [(2, v0), (0, v1), (0, v2)] kd m q :=
  Ct.start k_Ap_hangs (Nat.le_of_ble_eq_true rfl) ⟨1, Or.inr (Or.inl ⟨rfl, rfl⟩)⟩ (T_Ap_hangs_0 h)
set_option maxRecDepth 20000 in
set_option maxHeartbeats 1000000 in
theorem T_Ap_reply_0 {d : Nat} {kd : ZK} {m : ZM} {q : Int → ZM → Prop} {v0 v1 v2 : Int} (h : (∃ q1, CtI d M_Ap_isPlayer [(0, v1)] kd m q1 ∧ ∀ x2 m3, q1 x2 m3 → ((x2 = 0 → q (-1) m3) ∧ (¬ x2 = 0 → (zobj kd v0 7 ∧ zobj kd v0 7 ∧ (zobj kd (m3 v0 3) 0 ∧ ∃ q4, CtI d M_Duo_take [(2, m3 v0 3), (2, m3 v0 8), (0, iw (1 - v1)), (0, v2)] kd m3 q4 ∧ ∀ x5 m6, q4 x5 m6 → ((x5 ≠ 0 → (zobj kd v0 7 ∧ zobj kd v0 7 ∧ (zobj kd (m6 v0 3) 0 ∧ ∃ q7, CtI d M_Duo_answerBest [(2, m6 v0 3), (2, m6 v0 8), (0, v1)] kd m6 q7 ∧ ∀ x8 m9, q7 x8 m9 → (zobj kd v0 7 ∧ zobj kd v0 7 ∧ (zobj kd (m9 v0 3) 0 ∧ ∃ q10, CtI d M_Duo_bestReply [(2, m9 v0 3), (2, m9 v0 8), (0, v1)] kd m9 q10 ∧ ∀ x11 m12, q10 x11 m12 → q x11 m12))))) ∧ (¬ x5 ≠ 0 → q (-1) m6)))))))) : Ev (d + 1) M_Ap_reply 0 0 0 [(2, v0), (0, v1), (0, v2)] [] kd m (zqI kd q) := by
  refine EvX.blk (pc' := 1) [(.iload_n 1, 0, 0)] (by decide +kernel) trivial ?_
  show Ev (d + 1) M_Ap_reply 0 0 1 [(2, v0), (0, v1), (0, v2)] [(0, v1)] kd m (zqI kd q)
  obtain ⟨q1, hq, h⟩ := h
  refine EvX.callS (mc := 0) (ms := 0) (as := [(0, v1)]) (st := []) (by decide +kernel) l_Ap_200 k_Ap_isPlayer s_Ap_isPlayer a_Ap_isPlayer (by decide) (Nat.le_of_ble_eq_true rfl) hq (fun r kd1 m3 hr => ?_)
  obtain ⟨x2, rfl, hk, hr⟩ := hr
  subst kd1
  have h := h x2 m3 hr
  show Ev (d + 1) M_Ap_reply 0 0 4 [(2, v0), (0, v1), (0, v2)] [(0, x2)] kd m3 (zqI kd q)
  refine EvX.if_eq (off := 21) (tgt := 25) (by decide +kernel) (by decide) (fun hc => ?_) (fun hc => ?_)
  · have h := h.1 hc
    refine EvX.blk (pc' := 26) [(.iconst (-1), 0, 0)] (by decide +kernel) trivial ?_
    show Ev (d + 1) M_Ap_reply 0 0 26 [(2, v0), (0, v1), (0, v2)] [(0, (-1))] kd m3 (zqI kd q)
    exact EvX.ret (r := (0, (-1))) (by decide +kernel) rfl ⟨_, rfl, rfl, h⟩
  · have h := h.2 hc
    obtain ⟨o1, o2, h⟩ := h
    refine EvX.blk (pc' := 19) [(.aload_n 0, 0, 0), (.getfield 33, 7, 3), (.aload_n 0, 0, 0), (.getfield 62, 7, 8), (.iconst 1, 0, 0), (.iload_n 1, 0, 0), (.isub, 0, 0), (.iload_n 2, 0, 0)] (by decide +kernel) ⟨g_Ap_33, g_Ap_62, trivial⟩ ⟨o1, o2, ?_⟩
    show Ev (d + 1) M_Ap_reply 0 0 19 [(2, v0), (0, v1), (0, v2)] [(0, v2), (0, iw (1 - v1)), (2, m3 v0 8), (2, m3 v0 3)] kd m3 (zqI kd q)
    obtain ⟨ov, h⟩ := h
    obtain ⟨q4, hq, h⟩ := h
    refine EvX.callV (c := 0) (mc := 0) (ms := 0) (as := [(2, m3 v0 8), (0, iw (1 - v1)), (0, v2)]) (st := []) (by decide +kernel) l_Ap_210 k_Duo_take v_Duo_take a_Duo_take (by decide) (Nat.le_of_ble_eq_true rfl) rfl ov hq (fun r kd1 m6 hr => ?_)
    obtain ⟨x5, rfl, hk, hr⟩ := hr
    subst kd1
    have h := h x5 m6 hr
    show Ev (d + 1) M_Ap_reply 0 0 22 [(2, v0), (0, v1), (0, v2)] [(0, x5)] kd m6 (zqI kd q)
    refine EvX.if_ne (off := 5) (tgt := 27) (by decide +kernel) (by decide) (fun hc => ?_) (fun hc => ?_)
    · have h := h.1 hc
      obtain ⟨o1, o2, h⟩ := h
      refine EvX.blk (pc' := 36) [(.aload_n 0, 0, 0), (.getfield 33, 7, 3), (.aload_n 0, 0, 0), (.getfield 62, 7, 8), (.iload_n 1, 0, 0)] (by decide +kernel) ⟨g_Ap_33, g_Ap_62, trivial⟩ ⟨o1, o2, ?_⟩
      show Ev (d + 1) M_Ap_reply 0 0 36 [(2, v0), (0, v1), (0, v2)] [(0, v1), (2, m6 v0 8), (2, m6 v0 3)] kd m6 (zqI kd q)
      obtain ⟨ov, h⟩ := h
      obtain ⟨q7, hq, h⟩ := h
      refine EvX.callV (c := 0) (mc := 0) (ms := 0) (as := [(2, m6 v0 8), (0, v1)]) (st := []) (by decide +kernel) l_Ap_217 k_Duo_answerBest v_Duo_answerBest a_Duo_answerBest (by decide) (Nat.le_of_ble_eq_true rfl) rfl ov hq (fun r kd1 m9 hr => ?_)
      obtain ⟨x8, rfl, hk, hr⟩ := hr
      subst kd1
      have h := h x8 m9 hr
      show Ev (d + 1) M_Ap_reply 0 0 39 [(2, v0), (0, v1), (0, v2)] [(0, x8)] kd m9 (zqI kd q)
      obtain ⟨o1, o2, h⟩ := h
      refine EvX.blk (pc' := 49) [(.pop, 0, 0), (.aload_n 0, 0, 0), (.getfield 33, 7, 3), (.aload_n 0, 0, 0), (.getfield 62, 7, 8), (.iload_n 1, 0, 0)] (by decide +kernel) ⟨g_Ap_33, g_Ap_62, trivial⟩ ⟨o1, o2, ?_⟩
      show Ev (d + 1) M_Ap_reply 0 0 49 [(2, v0), (0, v1), (0, v2)] [(0, v1), (2, m9 v0 8), (2, m9 v0 3)] kd m9 (zqI kd q)
      obtain ⟨ov, h⟩ := h
      obtain ⟨q10, hq, h⟩ := h
      refine EvX.callV (c := 0) (mc := 0) (ms := 0) (as := [(2, m9 v0 8), (0, v1)]) (st := []) (by decide +kernel) l_Ap_220 k_Duo_bestReply v_Duo_bestReply a_Duo_bestReply (by decide) (Nat.le_of_ble_eq_true rfl) rfl ov hq (fun r kd1 m12 hr => ?_)
      obtain ⟨x11, rfl, hk, hr⟩ := hr
      subst kd1
      have h := h x11 m12 hr
      show Ev (d + 1) M_Ap_reply 0 0 52 [(2, v0), (0, v1), (0, v2)] [(0, x11)] kd m12 (zqI kd q)
      exact EvX.ret (r := (0, x11)) (by decide +kernel) rfl ⟨_, rfl, rfl, h⟩
    · have h := h.2 hc
      refine EvX.blk (pc' := 26) [(.iconst (-1), 0, 0)] (by decide +kernel) trivial ?_
      show Ev (d + 1) M_Ap_reply 0 0 26 [(2, v0), (0, v1), (0, v2)] [(0, (-1))] kd m6 (zqI kd q)
      exact EvX.ret (r := (0, (-1))) (by decide +kernel) rfl ⟨_, rfl, rfl, h⟩
theorem S_Ap_reply {d : Nat} {kd : ZK} {m : ZM} {q : Int → ZM → Prop} {v0 v1 v2 : Int} (h : (∃ q1, CtI d M_Ap_isPlayer [(0, v1)] kd m q1 ∧ ∀ x2 m3, q1 x2 m3 → ((x2 = 0 → q (-1) m3) ∧ (¬ x2 = 0 → (zobj kd v0 7 ∧ zobj kd v0 7 ∧ (zobj kd (m3 v0 3) 0 ∧ ∃ q4, CtI d M_Duo_take [(2, m3 v0 3), (2, m3 v0 8), (0, iw (1 - v1)), (0, v2)] kd m3 q4 ∧ ∀ x5 m6, q4 x5 m6 → ((x5 ≠ 0 → (zobj kd v0 7 ∧ zobj kd v0 7 ∧ (zobj kd (m6 v0 3) 0 ∧ ∃ q7, CtI d M_Duo_answerBest [(2, m6 v0 3), (2, m6 v0 8), (0, v1)] kd m6 q7 ∧ ∀ x8 m9, q7 x8 m9 → (zobj kd v0 7 ∧ zobj kd v0 7 ∧ (zobj kd (m9 v0 3) 0 ∧ ∃ q10, CtI d M_Duo_bestReply [(2, m9 v0 3), (2, m9 v0 8), (0, v1)] kd m9 q10 ∧ ∀ x11 m12, q10 x11 m12 → q x11 m12))))) ∧ (¬ x5 ≠ 0 → q (-1) m6)))))))) : CtI (d + 1) M_Ap_reply [(2, v0), (0, v1), (0, v2)] kd m q :=
  Ct.start k_Ap_reply (Nat.le_of_ble_eq_true rfl) ⟨1, Or.inr (Or.inl ⟨rfl, rfl⟩)⟩ (T_Ap_reply_0 h)
set_option maxRecDepth 20000 in
set_option maxHeartbeats 1000000 in
theorem T_Ap_bests_0 {d : Nat} {kd : ZK} {m : ZM} {q : Int → ZM → Prop} {v0 : Int} (h : (zobj kd v0 7 ∧ (zobj kd (m v0 8) 1 ∧ ∃ q1, CtI d M_Game_isTold [(2, m v0 8)] kd m q1 ∧ ∀ x2 m3, q1 x2 m3 → ((x2 ≠ 0 → (zobj kd v0 7 ∧ (zobj kd v0 7 ∧ ∃ q4, CtI d M_Ap_mostOf [(2, v0), (2, m3 v0 8)] kd m3 q4 ∧ ∀ x5 m6, q4 x5 m6 → (zobj kd v0 7 ∧ zobj kd v0 7 ∧ (zobj kd (m6 v0 2) 5 ∧ ∃ q7, CtV d M_Table_loadSome [(2, m6 v0 2), (2, m6 v0 8), (0, 0), (0, 31)] kd m6 q7 ∧ ∀ m9, q7 m9 → (zobj kd v0 7 ∧ (zobj kd (m9 v0 2) 5 ∧ ∃ q10, CtL d M_Table_countTops [(2, m9 v0 2), (0, x5)] kd m9 q10 ∧ ∀ x11 m12, q10 x11 m12 → q x11 m12))))))) ∧ (¬ x2 ≠ 0 → q (-1) m3))))) : Ev (d + 1) M_Ap_bests 0 0 0 [(2, v0), zJ] [] kd m (zqL kd q) := by
  obtain ⟨o1, h⟩ := h
  refine EvX.blk (pc' := 4) [(.aload_n 0, 0, 0), (.getfield 62, 7, 8)] (by decide +kernel) ⟨g_Ap_62, trivial⟩ ⟨o1, ?_⟩
  show Ev (d + 1) M_Ap_bests 0 0 4 [(2, v0), zJ] [(2, m v0 8)] kd m (zqL kd q)
  obtain ⟨ov, h⟩ := h
  obtain ⟨q1, hq, h⟩ := h
  refine EvX.callV (c := 1) (mc := 0) (ms := 0) (as := []) (st := []) (by decide +kernel) l_Ap_135 k_Game_isTold v_Game_isTold a_Game_isTold (by decide) (Nat.le_of_ble_eq_true rfl) rfl ov hq (fun r kd1 m3 hr => ?_)
  obtain ⟨x2, rfl, hk, hr⟩ := hr
  subst kd1
  have h := h x2 m3 hr
  show Ev (d + 1) M_Ap_bests 0 0 7 [(2, v0), zJ] [(0, x2)] kd m3 (zqL kd q)
  refine EvX.if_ne (off := 7) (tgt := 14) (by decide +kernel) (by decide) (fun hc => ?_) (fun hc => ?_)
  · have h := h.1 hc
    obtain ⟨o1, h⟩ := h
    refine EvX.blk (pc' := 19) [(.aload_n 0, 0, 0), (.aload_n 0, 0, 0), (.getfield 62, 7, 8)] (by decide +kernel) ⟨g_Ap_62, trivial⟩ ⟨o1, ?_⟩
    show Ev (d + 1) M_Ap_bests 0 0 19 [(2, v0), zJ] [(2, m3 v0 8), (2, v0)] kd m3 (zqL kd q)
    obtain ⟨ov, h⟩ := h
    obtain ⟨q4, hq, h⟩ := h
    refine EvX.callV (c := 7) (mc := 0) (ms := 0) (as := [(2, m3 v0 8)]) (st := []) (by decide +kernel) l_Ap_184 k_Ap_mostOf v_Ap_mostOf a_Ap_mostOf (by decide) (Nat.le_of_ble_eq_true rfl) rfl ov hq (fun r kd1 m6 hr => ?_)
    obtain ⟨x5, rfl, hk, hr⟩ := hr
    subst kd1
    have h := h x5 m6 hr
    show Ev (d + 1) M_Ap_bests 0 0 22 [(2, v0), zJ] [(0, x5)] kd m6 (zqL kd q)
    obtain ⟨o1, o2, h⟩ := h
    refine EvX.blk (pc' := 34) [(.istore_n 1, 0, 0), (.aload_n 0, 0, 0), (.getfield 26, 7, 2), (.aload_n 0, 0, 0), (.getfield 62, 7, 8), (.iconst 0, 0, 0), (.bipush 31, 0, 0)] (by decide +kernel) ⟨g_Ap_26, g_Ap_62, trivial⟩ ⟨o1, o2, ?_⟩
    show Ev (d + 1) M_Ap_bests 0 0 34 [(2, v0), (0, x5)] [(0, 31), (0, 0), (2, m6 v0 8), (2, m6 v0 2)] kd m6 (zqL kd q)
    obtain ⟨ov, h⟩ := h
    obtain ⟨q7, hq, h⟩ := h
    refine EvX.callV (c := 5) (mc := 0) (ms := 0) (as := [(2, m6 v0 8), (0, 0), (0, 31)]) (st := []) (by decide +kernel) l_Ap_190 k_Table_loadSome v_Table_loadSome a_Table_loadSome (by decide) (Nat.le_of_ble_eq_true rfl) rfl ov hq (fun r kd1 m9 hr => ?_)
    obtain ⟨rfl, hk, hr⟩ := hr
    subst kd1
    have h := h m9 hr
    show Ev (d + 1) M_Ap_bests 0 0 37 [(2, v0), (0, x5)] [] kd m9 (zqL kd q)
    obtain ⟨o1, h⟩ := h
    refine EvX.blk (pc' := 42) [(.aload_n 0, 0, 0), (.getfield 26, 7, 2), (.iload_n 1, 0, 0)] (by decide +kernel) ⟨g_Ap_26, trivial⟩ ⟨o1, ?_⟩
    show Ev (d + 1) M_Ap_bests 0 0 42 [(2, v0), (0, x5)] [(0, x5), (2, m9 v0 2)] kd m9 (zqL kd q)
    obtain ⟨ov, h⟩ := h
    obtain ⟨q10, hq, h⟩ := h
    refine EvX.callV (c := 5) (mc := 0) (ms := 0) (as := [(0, x5)]) (st := []) (by decide +kernel) l_Ap_225 k_Table_countTops v_Table_countTops a_Table_countTops (by decide) (Nat.le_of_ble_eq_true rfl) rfl ov hq (fun r kd1 m12 hr => ?_)
    obtain ⟨x11, rfl, hk, hr⟩ := hr
    subst kd1
    have h := h x11 m12 hr
    show Ev (d + 1) M_Ap_bests 0 0 45 [(2, v0), (0, x5)] [(1, x11)] kd m12 (zqL kd q)
    exact EvX.ret (r := (1, x11)) (by decide +kernel) rfl ⟨_, rfl, rfl, h⟩
  · have h := h.2 hc
    refine EvX.blk (pc' := 13) [(.ldc2_w 223, 0, (-1))] (by decide +kernel) ⟨z_Ap_223, trivial⟩ ?_
    show Ev (d + 1) M_Ap_bests 0 0 13 [(2, v0), zJ] [(1, (-1))] kd m3 (zqL kd q)
    exact EvX.ret (r := (1, (-1))) (by decide +kernel) rfl ⟨_, rfl, rfl, h⟩
theorem S_Ap_bests {d : Nat} {kd : ZK} {m : ZM} {q : Int → ZM → Prop} {v0 : Int} (h : (zobj kd v0 7 ∧ (zobj kd (m v0 8) 1 ∧ ∃ q1, CtI d M_Game_isTold [(2, m v0 8)] kd m q1 ∧ ∀ x2 m3, q1 x2 m3 → ((x2 ≠ 0 → (zobj kd v0 7 ∧ (zobj kd v0 7 ∧ ∃ q4, CtI d M_Ap_mostOf [(2, v0), (2, m3 v0 8)] kd m3 q4 ∧ ∀ x5 m6, q4 x5 m6 → (zobj kd v0 7 ∧ zobj kd v0 7 ∧ (zobj kd (m6 v0 2) 5 ∧ ∃ q7, CtV d M_Table_loadSome [(2, m6 v0 2), (2, m6 v0 8), (0, 0), (0, 31)] kd m6 q7 ∧ ∀ m9, q7 m9 → (zobj kd v0 7 ∧ (zobj kd (m9 v0 2) 5 ∧ ∃ q10, CtL d M_Table_countTops [(2, m9 v0 2), (0, x5)] kd m9 q10 ∧ ∀ x11 m12, q10 x11 m12 → q x11 m12))))))) ∧ (¬ x2 ≠ 0 → q (-1) m3))))) : CtL (d + 1) M_Ap_bests [(2, v0)] kd m q :=
  Ct.start k_Ap_bests (Nat.le_of_ble_eq_true rfl) ⟨3, Or.inr (Or.inr (Or.inr (Or.inl ⟨rfl, rfl⟩)))⟩ (T_Ap_bests_0 h)
set_option maxRecDepth 20000 in
set_option maxHeartbeats 1000000 in
theorem T_Ap_best_0 {d : Nat} {kd : ZK} {m : ZM} {q : Int → ZM → Prop} {v0 v1 v2 : Int} (h : (zobj kd v0 7 ∧ (zobj kd (m v0 8) 1 ∧ ∃ q1, CtI d M_Game_isTold [(2, m v0 8)] kd m q1 ∧ ∀ x2 m3, q1 x2 m3 → ((x2 = 0 → q (-1) m3) ∧ (¬ x2 = 0 → (∃ q4, CtI d M_Ap_isPlayer [(0, v2)] kd m3 q4 ∧ ∀ x5 m6, q4 x5 m6 → ((x5 = 0 → q (-1) m6) ∧ (¬ x5 = 0 → ((0 ≤ v1 → (zobj kd v0 7 ∧ (zobj kd v0 7 ∧ ∃ q7, CtI d M_Ap_mostOf [(2, v0), (2, m6 v0 8)] kd m6 q7 ∧ ∀ x8 m9, q7 x8 m9 → (zobj kd v0 7 ∧ zobj kd v0 7 ∧ (zobj kd (m9 v0 2) 5 ∧ ∃ q10, CtV d M_Table_loadSome [(2, m9 v0 2), (2, m9 v0 8), (0, 0), (0, 31)] kd m9 q10 ∧ ∀ m12, q10 m12 → (zobj kd v0 7 ∧ (zobj kd (m12 v0 2) 5 ∧ ∃ q13, CtI d M_Table_rowOfTop [(2, m12 v0 2), (0, x8), (0, v1), (0, v2)] kd m12 q13 ∧ ∀ x14 m15, q13 x14 m15 → q x14 m15))))))) ∧ (¬ 0 ≤ v1 → q (-1) m6)))))))))) : Ev (d + 1) M_Ap_best 0 0 0 [(2, v0), (0, v1), (0, v2), zJ] [] kd m (zqI kd q) := by
  obtain ⟨o1, h⟩ := h
  refine EvX.blk (pc' := 4) [(.aload_n 0, 0, 0), (.getfield 62, 7, 8)] (by decide +kernel) ⟨g_Ap_62, trivial⟩ ⟨o1, ?_⟩
  show Ev (d + 1) M_Ap_best 0 0 4 [(2, v0), (0, v1), (0, v2), zJ] [(2, m v0 8)] kd m (zqI kd q)
  obtain ⟨ov, h⟩ := h
  obtain ⟨q1, hq, h⟩ := h
  refine EvX.callV (c := 1) (mc := 0) (ms := 0) (as := []) (st := []) (by decide +kernel) l_Ap_135 k_Game_isTold v_Game_isTold a_Game_isTold (by decide) (Nat.le_of_ble_eq_true rfl) rfl ov hq (fun r kd1 m3 hr => ?_)
  obtain ⟨x2, rfl, hk, hr⟩ := hr
  subst kd1
  have h := h x2 m3 hr
  show Ev (d + 1) M_Ap_best 0 0 7 [(2, v0), (0, v1), (0, v2), zJ] [(0, x2)] kd m3 (zqI kd q)
  refine EvX.if_eq (off := 14) (tgt := 21) (by decide +kernel) (by decide) (fun hc => ?_) (fun hc => ?_)
  · have h := h.1 hc
    refine EvX.blk (pc' := 22) [(.iconst (-1), 0, 0)] (by decide +kernel) trivial ?_
    show Ev (d + 1) M_Ap_best 0 0 22 [(2, v0), (0, v1), (0, v2), zJ] [(0, (-1))] kd m3 (zqI kd q)
    exact EvX.ret (r := (0, (-1))) (by decide +kernel) rfl ⟨_, rfl, rfl, h⟩
  · have h := h.2 hc
    refine EvX.blk (pc' := 11) [(.iload_n 2, 0, 0)] (by decide +kernel) trivial ?_
    show Ev (d + 1) M_Ap_best 0 0 11 [(2, v0), (0, v1), (0, v2), zJ] [(0, v2)] kd m3 (zqI kd q)
    obtain ⟨q4, hq, h⟩ := h
    refine EvX.callS (mc := 0) (ms := 0) (as := [(0, v2)]) (st := []) (by decide +kernel) l_Ap_200 k_Ap_isPlayer s_Ap_isPlayer a_Ap_isPlayer (by decide) (Nat.le_of_ble_eq_true rfl) hq (fun r kd1 m6 hr => ?_)
    obtain ⟨x5, rfl, hk, hr⟩ := hr
    subst kd1
    have h := h x5 m6 hr
    show Ev (d + 1) M_Ap_best 0 0 14 [(2, v0), (0, v1), (0, v2), zJ] [(0, x5)] kd m6 (zqI kd q)
    refine EvX.if_eq (off := 7) (tgt := 21) (by decide +kernel) (by decide) (fun hc => ?_) (fun hc => ?_)
    · have h := h.1 hc
      refine EvX.blk (pc' := 22) [(.iconst (-1), 0, 0)] (by decide +kernel) trivial ?_
      show Ev (d + 1) M_Ap_best 0 0 22 [(2, v0), (0, v1), (0, v2), zJ] [(0, (-1))] kd m6 (zqI kd q)
      exact EvX.ret (r := (0, (-1))) (by decide +kernel) rfl ⟨_, rfl, rfl, h⟩
    · have h := h.2 hc
      refine EvX.blk (pc' := 18) [(.iload_n 1, 0, 0)] (by decide +kernel) trivial ?_
      show Ev (d + 1) M_Ap_best 0 0 18 [(2, v0), (0, v1), (0, v2), zJ] [(0, v1)] kd m6 (zqI kd q)
      refine EvX.if_ge (off := 5) (tgt := 23) (by decide +kernel) (by decide) (fun hc => ?_) (fun hc => ?_)
      · have h := h.1 hc
        obtain ⟨o1, h⟩ := h
        refine EvX.blk (pc' := 28) [(.aload_n 0, 0, 0), (.aload_n 0, 0, 0), (.getfield 62, 7, 8)] (by decide +kernel) ⟨g_Ap_62, trivial⟩ ⟨o1, ?_⟩
        show Ev (d + 1) M_Ap_best 0 0 28 [(2, v0), (0, v1), (0, v2), zJ] [(2, m6 v0 8), (2, v0)] kd m6 (zqI kd q)
        obtain ⟨ov, h⟩ := h
        obtain ⟨q7, hq, h⟩ := h
        refine EvX.callV (c := 7) (mc := 0) (ms := 0) (as := [(2, m6 v0 8)]) (st := []) (by decide +kernel) l_Ap_184 k_Ap_mostOf v_Ap_mostOf a_Ap_mostOf (by decide) (Nat.le_of_ble_eq_true rfl) rfl ov hq (fun r kd1 m9 hr => ?_)
        obtain ⟨x8, rfl, hk, hr⟩ := hr
        subst kd1
        have h := h x8 m9 hr
        show Ev (d + 1) M_Ap_best 0 0 31 [(2, v0), (0, v1), (0, v2), zJ] [(0, x8)] kd m9 (zqI kd q)
        obtain ⟨o1, o2, h⟩ := h
        refine EvX.blk (pc' := 43) [(.istore_n 3, 0, 0), (.aload_n 0, 0, 0), (.getfield 26, 7, 2), (.aload_n 0, 0, 0), (.getfield 62, 7, 8), (.iconst 0, 0, 0), (.bipush 31, 0, 0)] (by decide +kernel) ⟨g_Ap_26, g_Ap_62, trivial⟩ ⟨o1, o2, ?_⟩
        show Ev (d + 1) M_Ap_best 0 0 43 [(2, v0), (0, v1), (0, v2), (0, x8)] [(0, 31), (0, 0), (2, m9 v0 8), (2, m9 v0 2)] kd m9 (zqI kd q)
        obtain ⟨ov, h⟩ := h
        obtain ⟨q10, hq, h⟩ := h
        refine EvX.callV (c := 5) (mc := 0) (ms := 0) (as := [(2, m9 v0 8), (0, 0), (0, 31)]) (st := []) (by decide +kernel) l_Ap_190 k_Table_loadSome v_Table_loadSome a_Table_loadSome (by decide) (Nat.le_of_ble_eq_true rfl) rfl ov hq (fun r kd1 m12 hr => ?_)
        obtain ⟨rfl, hk, hr⟩ := hr
        subst kd1
        have h := h m12 hr
        show Ev (d + 1) M_Ap_best 0 0 46 [(2, v0), (0, v1), (0, v2), (0, x8)] [] kd m12 (zqI kd q)
        obtain ⟨o1, h⟩ := h
        refine EvX.blk (pc' := 53) [(.aload_n 0, 0, 0), (.getfield 26, 7, 2), (.iload_n 3, 0, 0), (.iload_n 1, 0, 0), (.iload_n 2, 0, 0)] (by decide +kernel) ⟨g_Ap_26, trivial⟩ ⟨o1, ?_⟩
        show Ev (d + 1) M_Ap_best 0 0 53 [(2, v0), (0, v1), (0, v2), (0, x8)] [(0, v2), (0, v1), (0, x8), (2, m12 v0 2)] kd m12 (zqI kd q)
        obtain ⟨ov, h⟩ := h
        obtain ⟨q13, hq, h⟩ := h
        refine EvX.callV (c := 5) (mc := 0) (ms := 0) (as := [(0, x8), (0, v1), (0, v2)]) (st := []) (by decide +kernel) l_Ap_229 k_Table_rowOfTop v_Table_rowOfTop a_Table_rowOfTop (by decide) (Nat.le_of_ble_eq_true rfl) rfl ov hq (fun r kd1 m15 hr => ?_)
        obtain ⟨x14, rfl, hk, hr⟩ := hr
        subst kd1
        have h := h x14 m15 hr
        show Ev (d + 1) M_Ap_best 0 0 56 [(2, v0), (0, v1), (0, v2), (0, x8)] [(0, x14)] kd m15 (zqI kd q)
        exact EvX.ret (r := (0, x14)) (by decide +kernel) rfl ⟨_, rfl, rfl, h⟩
      · have h := h.2 hc
        refine EvX.blk (pc' := 22) [(.iconst (-1), 0, 0)] (by decide +kernel) trivial ?_
        show Ev (d + 1) M_Ap_best 0 0 22 [(2, v0), (0, v1), (0, v2), zJ] [(0, (-1))] kd m6 (zqI kd q)
        exact EvX.ret (r := (0, (-1))) (by decide +kernel) rfl ⟨_, rfl, rfl, h⟩
theorem S_Ap_best {d : Nat} {kd : ZK} {m : ZM} {q : Int → ZM → Prop} {v0 v1 v2 : Int} (h : (zobj kd v0 7 ∧ (zobj kd (m v0 8) 1 ∧ ∃ q1, CtI d M_Game_isTold [(2, m v0 8)] kd m q1 ∧ ∀ x2 m3, q1 x2 m3 → ((x2 = 0 → q (-1) m3) ∧ (¬ x2 = 0 → (∃ q4, CtI d M_Ap_isPlayer [(0, v2)] kd m3 q4 ∧ ∀ x5 m6, q4 x5 m6 → ((x5 = 0 → q (-1) m6) ∧ (¬ x5 = 0 → ((0 ≤ v1 → (zobj kd v0 7 ∧ (zobj kd v0 7 ∧ ∃ q7, CtI d M_Ap_mostOf [(2, v0), (2, m6 v0 8)] kd m6 q7 ∧ ∀ x8 m9, q7 x8 m9 → (zobj kd v0 7 ∧ zobj kd v0 7 ∧ (zobj kd (m9 v0 2) 5 ∧ ∃ q10, CtV d M_Table_loadSome [(2, m9 v0 2), (2, m9 v0 8), (0, 0), (0, 31)] kd m9 q10 ∧ ∀ m12, q10 m12 → (zobj kd v0 7 ∧ (zobj kd (m12 v0 2) 5 ∧ ∃ q13, CtI d M_Table_rowOfTop [(2, m12 v0 2), (0, x8), (0, v1), (0, v2)] kd m12 q13 ∧ ∀ x14 m15, q13 x14 m15 → q x14 m15))))))) ∧ (¬ 0 ≤ v1 → q (-1) m6)))))))))) : CtI (d + 1) M_Ap_best [(2, v0), (0, v1), (0, v2)] kd m q :=
  Ct.start k_Ap_best (Nat.le_of_ble_eq_true rfl) ⟨1, Or.inr (Or.inl ⟨rfl, rfl⟩)⟩ (T_Ap_best_0 h)
set_option maxRecDepth 20000 in
set_option maxHeartbeats 1000000 in
theorem T_Ap_lost_0 {d : Nat} {kd : ZK} {m : ZM} {q : Int → ZM → Prop} {v0 v1 v2 : Int} (h : (zobj kd v0 7 ∧ (zobj kd (m v0 8) 1 ∧ ∃ q1, CtI d M_Game_hasCell [(2, m v0 8), (0, v1), (0, v2)] kd m q1 ∧ ∀ x2 m3, q1 x2 m3 → ((x2 ≠ 0 → (zobj kd v0 7 ∧ (zobj kd v0 7 ∧ ∃ q4, CtI d M_Ap_mostOf [(2, v0), (2, m3 v0 8)] kd m3 q4 ∧ ∀ x5 m6, q4 x5 m6 → (zobj kd v0 7 ∧ zobj kd v0 7 ∧ (zobj kd (m6 v0 2) 5 ∧ ∃ q7, CtV d M_Table_loadSome [(2, m6 v0 2), (2, m6 v0 8), (0, 0), (0, 31)] kd m6 q7 ∧ ∀ m9, q7 m9 → (zobj kd v0 7 ∧ zobj kd v0 7 ∧ (zobj kd (m9 v0 2) 5 ∧ ∃ q10, CtL d M_Table_countTopsLosing [(2, m9 v0 2), (2, m9 v0 8), (0, x5), (0, v1), (0, v2)] kd m9 q10 ∧ ∀ x11 m12, q10 x11 m12 → q x11 m12))))))) ∧ (¬ x2 ≠ 0 → q (-1) m3))))) : Ev (d + 1) M_Ap_lost 0 0 0 [(2, v0), (0, v1), (0, v2), zJ] [] kd m (zqL kd q) := by
  obtain ⟨o1, h⟩ := h
  refine EvX.blk (pc' := 6) [(.aload_n 0, 0, 0), (.getfield 62, 7, 8), (.iload_n 1, 0, 0), (.iload_n 2, 0, 0)] (by decide +kernel) ⟨g_Ap_62, trivial⟩ ⟨o1, ?_⟩
  show Ev (d + 1) M_Ap_lost 0 0 6 [(2, v0), (0, v1), (0, v2), zJ] [(0, v2), (0, v1), (2, m v0 8)] kd m (zqL kd q)
  obtain ⟨ov, h⟩ := h
  obtain ⟨q1, hq, h⟩ := h
  refine EvX.callV (c := 1) (mc := 0) (ms := 0) (as := [(0, v1), (0, v2)]) (st := []) (by decide +kernel) l_Ap_93 k_Game_hasCell v_Game_hasCell a_Game_hasCell (by decide) (Nat.le_of_ble_eq_true rfl) rfl ov hq (fun r kd1 m3 hr => ?_)
  obtain ⟨x2, rfl, hk, hr⟩ := hr
  subst kd1
  have h := h x2 m3 hr
  show Ev (d + 1) M_Ap_lost 0 0 9 [(2, v0), (0, v1), (0, v2), zJ] [(0, x2)] kd m3 (zqL kd q)
  refine EvX.if_ne (off := 7) (tgt := 16) (by decide +kernel) (by decide) (fun hc => ?_) (fun hc => ?_)
  · have h := h.1 hc
    obtain ⟨o1, h⟩ := h
    refine EvX.blk (pc' := 21) [(.aload_n 0, 0, 0), (.aload_n 0, 0, 0), (.getfield 62, 7, 8)] (by decide +kernel) ⟨g_Ap_62, trivial⟩ ⟨o1, ?_⟩
    show Ev (d + 1) M_Ap_lost 0 0 21 [(2, v0), (0, v1), (0, v2), zJ] [(2, m3 v0 8), (2, v0)] kd m3 (zqL kd q)
    obtain ⟨ov, h⟩ := h
    obtain ⟨q4, hq, h⟩ := h
    refine EvX.callV (c := 7) (mc := 0) (ms := 0) (as := [(2, m3 v0 8)]) (st := []) (by decide +kernel) l_Ap_184 k_Ap_mostOf v_Ap_mostOf a_Ap_mostOf (by decide) (Nat.le_of_ble_eq_true rfl) rfl ov hq (fun r kd1 m6 hr => ?_)
    obtain ⟨x5, rfl, hk, hr⟩ := hr
    subst kd1
    have h := h x5 m6 hr
    show Ev (d + 1) M_Ap_lost 0 0 24 [(2, v0), (0, v1), (0, v2), zJ] [(0, x5)] kd m6 (zqL kd q)
    obtain ⟨o1, o2, h⟩ := h
    refine EvX.blk (pc' := 36) [(.istore_n 3, 0, 0), (.aload_n 0, 0, 0), (.getfield 26, 7, 2), (.aload_n 0, 0, 0), (.getfield 62, 7, 8), (.iconst 0, 0, 0), (.bipush 31, 0, 0)] (by decide +kernel) ⟨g_Ap_26, g_Ap_62, trivial⟩ ⟨o1, o2, ?_⟩
    show Ev (d + 1) M_Ap_lost 0 0 36 [(2, v0), (0, v1), (0, v2), (0, x5)] [(0, 31), (0, 0), (2, m6 v0 8), (2, m6 v0 2)] kd m6 (zqL kd q)
    obtain ⟨ov, h⟩ := h
    obtain ⟨q7, hq, h⟩ := h
    refine EvX.callV (c := 5) (mc := 0) (ms := 0) (as := [(2, m6 v0 8), (0, 0), (0, 31)]) (st := []) (by decide +kernel) l_Ap_190 k_Table_loadSome v_Table_loadSome a_Table_loadSome (by decide) (Nat.le_of_ble_eq_true rfl) rfl ov hq (fun r kd1 m9 hr => ?_)
    obtain ⟨rfl, hk, hr⟩ := hr
    subst kd1
    have h := h m9 hr
    show Ev (d + 1) M_Ap_lost 0 0 39 [(2, v0), (0, v1), (0, v2), (0, x5)] [] kd m9 (zqL kd q)
    obtain ⟨o1, o2, h⟩ := h
    refine EvX.blk (pc' := 50) [(.aload_n 0, 0, 0), (.getfield 26, 7, 2), (.aload_n 0, 0, 0), (.getfield 62, 7, 8), (.iload_n 3, 0, 0), (.iload_n 1, 0, 0), (.iload_n 2, 0, 0)] (by decide +kernel) ⟨g_Ap_26, g_Ap_62, trivial⟩ ⟨o1, o2, ?_⟩
    show Ev (d + 1) M_Ap_lost 0 0 50 [(2, v0), (0, v1), (0, v2), (0, x5)] [(0, v2), (0, v1), (0, x5), (2, m9 v0 8), (2, m9 v0 2)] kd m9 (zqL kd q)
    obtain ⟨ov, h⟩ := h
    obtain ⟨q10, hq, h⟩ := h
    refine EvX.callV (c := 5) (mc := 0) (ms := 0) (as := [(2, m9 v0 8), (0, x5), (0, v1), (0, v2)]) (st := []) (by decide +kernel) l_Ap_232 k_Table_countTopsLosing v_Table_countTopsLosing a_Table_countTopsLosing (by decide) (Nat.le_of_ble_eq_true rfl) rfl ov hq (fun r kd1 m12 hr => ?_)
    obtain ⟨x11, rfl, hk, hr⟩ := hr
    subst kd1
    have h := h x11 m12 hr
    show Ev (d + 1) M_Ap_lost 0 0 53 [(2, v0), (0, v1), (0, v2), (0, x5)] [(1, x11)] kd m12 (zqL kd q)
    exact EvX.ret (r := (1, x11)) (by decide +kernel) rfl ⟨_, rfl, rfl, h⟩
  · have h := h.2 hc
    refine EvX.blk (pc' := 15) [(.ldc2_w 223, 0, (-1))] (by decide +kernel) ⟨z_Ap_223, trivial⟩ ?_
    show Ev (d + 1) M_Ap_lost 0 0 15 [(2, v0), (0, v1), (0, v2), zJ] [(1, (-1))] kd m3 (zqL kd q)
    exact EvX.ret (r := (1, (-1))) (by decide +kernel) rfl ⟨_, rfl, rfl, h⟩
theorem S_Ap_lost {d : Nat} {kd : ZK} {m : ZM} {q : Int → ZM → Prop} {v0 v1 v2 : Int} (h : (zobj kd v0 7 ∧ (zobj kd (m v0 8) 1 ∧ ∃ q1, CtI d M_Game_hasCell [(2, m v0 8), (0, v1), (0, v2)] kd m q1 ∧ ∀ x2 m3, q1 x2 m3 → ((x2 ≠ 0 → (zobj kd v0 7 ∧ (zobj kd v0 7 ∧ ∃ q4, CtI d M_Ap_mostOf [(2, v0), (2, m3 v0 8)] kd m3 q4 ∧ ∀ x5 m6, q4 x5 m6 → (zobj kd v0 7 ∧ zobj kd v0 7 ∧ (zobj kd (m6 v0 2) 5 ∧ ∃ q7, CtV d M_Table_loadSome [(2, m6 v0 2), (2, m6 v0 8), (0, 0), (0, 31)] kd m6 q7 ∧ ∀ m9, q7 m9 → (zobj kd v0 7 ∧ zobj kd v0 7 ∧ (zobj kd (m9 v0 2) 5 ∧ ∃ q10, CtL d M_Table_countTopsLosing [(2, m9 v0 2), (2, m9 v0 8), (0, x5), (0, v1), (0, v2)] kd m9 q10 ∧ ∀ x11 m12, q10 x11 m12 → q x11 m12))))))) ∧ (¬ x2 ≠ 0 → q (-1) m3))))) : CtL (d + 1) M_Ap_lost [(2, v0), (0, v1), (0, v2)] kd m q :=
  Ct.start k_Ap_lost (Nat.le_of_ble_eq_true rfl) ⟨3, Or.inr (Or.inr (Or.inr (Or.inl ⟨rfl, rfl⟩)))⟩ (T_Ap_lost_0 h)
set_option maxRecDepth 20000 in
set_option maxHeartbeats 1000000 in
theorem T_Ap_mean_0 {d : Nat} {kd : ZK} {m : ZM} {q : Int → ZM → Prop} {v0 v1 : Int} (h : (zobj kd v0 7 ∧ (zobj kd (m v0 8) 1 ∧ ∃ q1, CtI d M_Game_isTold [(2, m v0 8)] kd m q1 ∧ ∀ x2 m3, q1 x2 m3 → ((x2 = 0 → q (-1) m3) ∧ (¬ x2 = 0 → ((v1 < 0 → q (-1) m3) ∧ (¬ v1 < 0 → ((v1 ≤ 1 → (zobj kd v0 7 ∧ (zobj kd (m3 v0 8) 1 ∧ ∃ q4, CtI d M_Game_weightOfWinningSpots [(2, m3 v0 8)] kd m3 q4 ∧ ∀ x5 m6, q4 x5 m6 → (zobj kd v0 7 ∧ zobj kd (m6 v0 8) 1 ∧ zobj kd v0 7 ∧ zobj kd (m6 v0 8) 1 ∧ (∃ q7, CtI d M_Ap_commonDivisor [(0, x5), (0, iw ((m6 (m6 v0 8) 2) * (m6 (m6 v0 8) 3)))] kd m6 q7 ∧ ∀ x8 m9, q7 x8 m9 → ((v1 ≠ 0 → (x8 ≠ 0 ∧ q (iw (Int.tdiv (iw ((m6 (m6 v0 8) 2) * (m6 (m6 v0 8) 3))) x8)) m9)) ∧ (¬ v1 ≠ 0 → (x8 ≠ 0 ∧ q (iw (Int.tdiv x5 x8)) m9)))))))) ∧ (¬ v1 ≤ 1 → q (-1) m3))))))))) : Ev (d + 1) M_Ap_mean 0 0 0 [(2, v0), (0, v1), zJ, zJ, zJ] [] kd m (zqL kd q) := by
  obtain ⟨o1, h⟩ := h
  refine EvX.blk (pc' := 4) [(.aload_n 0, 0, 0), (.getfield 62, 7, 8)] (by decide +kernel) ⟨g_Ap_62, trivial⟩ ⟨o1, ?_⟩
  show Ev (d + 1) M_Ap_mean 0 0 4 [(2, v0), (0, v1), zJ, zJ, zJ] [(2, m v0 8)] kd m (zqL kd q)
  obtain ⟨ov, h⟩ := h
  obtain ⟨q1, hq, h⟩ := h
  refine EvX.callV (c := 1) (mc := 0) (ms := 0) (as := []) (st := []) (by decide +kernel) l_Ap_135 k_Game_isTold v_Game_isTold a_Game_isTold (by decide) (Nat.le_of_ble_eq_true rfl) rfl ov hq (fun r kd1 m3 hr => ?_)
  obtain ⟨x2, rfl, hk, hr⟩ := hr
  subst kd1
  have h := h x2 m3 hr
  show Ev (d + 1) M_Ap_mean 0 0 7 [(2, v0), (0, v1), zJ, zJ, zJ] [(0, x2)] kd m3 (zqL kd q)
  refine EvX.if_eq (off := 12) (tgt := 19) (by decide +kernel) (by decide) (fun hc => ?_) (fun hc => ?_)
  · have h := h.1 hc
    refine EvX.blk (pc' := 22) [(.ldc2_w 223, 0, (-1))] (by decide +kernel) ⟨z_Ap_223, trivial⟩ ?_
    show Ev (d + 1) M_Ap_mean 0 0 22 [(2, v0), (0, v1), zJ, zJ, zJ] [(1, (-1))] kd m3 (zqL kd q)
    exact EvX.ret (r := (1, (-1))) (by decide +kernel) rfl ⟨_, rfl, rfl, h⟩
  · have h := h.2 hc
    refine EvX.blk (pc' := 11) [(.iload_n 1, 0, 0)] (by decide +kernel) trivial ?_
    show Ev (d + 1) M_Ap_mean 0 0 11 [(2, v0), (0, v1), zJ, zJ, zJ] [(0, v1)] kd m3 (zqL kd q)
    refine EvX.if_lt (off := 8) (tgt := 19) (by decide +kernel) (by decide) (fun hc => ?_) (fun hc => ?_)
    · have h := h.1 hc
      refine EvX.blk (pc' := 22) [(.ldc2_w 223, 0, (-1))] (by decide +kernel) ⟨z_Ap_223, trivial⟩ ?_
      show Ev (d + 1) M_Ap_mean 0 0 22 [(2, v0), (0, v1), zJ, zJ, zJ] [(1, (-1))] kd m3 (zqL kd q)
      exact EvX.ret (r := (1, (-1))) (by decide +kernel) rfl ⟨_, rfl, rfl, h⟩
    · have h := h.2 hc
      refine EvX.blk (pc' := 16) [(.iload_n 1, 0, 0), (.iconst 1, 0, 0)] (by decide +kernel) trivial ?_
      show Ev (d + 1) M_Ap_mean 0 0 16 [(2, v0), (0, v1), zJ, zJ, zJ] [(0, 1), (0, v1)] kd m3 (zqL kd q)
      refine EvX.icmp_le (off := 7) (tgt := 23) (by decide +kernel) (by decide) (fun hc => ?_) (fun hc => ?_)
      · have h := h.1 hc
        obtain ⟨o1, h⟩ := h
        refine EvX.blk (pc' := 27) [(.aload_n 0, 0, 0), (.getfield 62, 7, 8)] (by decide +kernel) ⟨g_Ap_62, trivial⟩ ⟨o1, ?_⟩
        show Ev (d + 1) M_Ap_mean 0 0 27 [(2, v0), (0, v1), zJ, zJ, zJ] [(2, m3 v0 8)] kd m3 (zqL kd q)
        obtain ⟨ov, h⟩ := h
        obtain ⟨q4, hq, h⟩ := h
        refine EvX.callV (c := 1) (mc := 0) (ms := 0) (as := []) (st := []) (by decide +kernel) l_Ap_236 k_Game_weightOfWinningSpots v_Game_weightOfWinningSpots a_Game_weightOfWinningSpots (by decide) (Nat.le_of_ble_eq_true rfl) rfl ov hq (fun r kd1 m6 hr => ?_)
        obtain ⟨x5, rfl, hk, hr⟩ := hr
        subst kd1
        have h := h x5 m6 hr
        show Ev (d + 1) M_Ap_mean 0 0 30 [(2, v0), (0, v1), zJ, zJ, zJ] [(0, x5)] kd m6 (zqL kd q)
        obtain ⟨o1, o2, o3, o4, h⟩ := h
        refine EvX.blk (pc' := 49) [(.istore_n 2, 0, 0), (.aload_n 0, 0, 0), (.getfield 62, 7, 8), (.getfield 239, 1, 2), (.aload_n 0, 0, 0), (.getfield 62, 7, 8), (.getfield 242, 1, 3), (.imul, 0, 0), (.istore_n 3, 0, 0), (.iload_n 2, 0, 0), (.iload_n 3, 0, 0)] (by decide +kernel) ⟨g_Ap_62, g_Ap_239, g_Ap_62, g_Ap_242, trivial⟩ ⟨o1, o2, o3, o4, ?_⟩
        show Ev (d + 1) M_Ap_mean 0 0 49 [(2, v0), (0, v1), (0, x5), (0, iw ((m6 (m6 v0 8) 2) * (m6 (m6 v0 8) 3))), zJ] [(0, iw ((m6 (m6 v0 8) 2) * (m6 (m6 v0 8) 3))), (0, x5)] kd m6 (zqL kd q)
        obtain ⟨q7, hq, h⟩ := h
        refine EvX.callS (mc := 0) (ms := 0) (as := [(0, x5), (0, iw ((m6 (m6 v0 8) 2) * (m6 (m6 v0 8) 3)))]) (st := []) (by decide +kernel) l_Ap_245 k_Ap_commonDivisor s_Ap_commonDivisor a_Ap_commonDivisor (by decide) (Nat.le_of_ble_eq_true rfl) hq (fun r kd1 m9 hr => ?_)
        obtain ⟨x8, rfl, hk, hr⟩ := hr
        subst kd1
        have h := h x8 m9 hr
        show Ev (d + 1) M_Ap_mean 0 0 52 [(2, v0), (0, v1), (0, x5), (0, iw ((m6 (m6 v0 8) 2) * (m6 (m6 v0 8) 3))), zJ] [(0, x8)] kd m9 (zqL kd q)
        refine EvX.blk (pc' := 55) [(.istore 4, 0, 0), (.iload_n 1, 0, 0)] (by decide +kernel) trivial ?_
        show Ev (d + 1) M_Ap_mean 0 0 55 [(2, v0), (0, v1), (0, x5), (0, iw ((m6 (m6 v0 8) 2) * (m6 (m6 v0 8) 3))), (0, x8)] [(0, v1)] kd m9 (zqL kd q)
        refine EvX.if_ne (off := 7) (tgt := 62) (by decide +kernel) (by decide) (fun hc => ?_) (fun hc => ?_)
        · have h := h.1 hc
          obtain ⟨o1, h⟩ := h
          refine EvX.blk (pc' := 67) [(.iload_n 3, 0, 0), (.iload 4, 0, 0), (.idiv, 0, 0), (.i2l, 0, 0)] (by decide +kernel) trivial ⟨o1, ?_⟩
          show Ev (d + 1) M_Ap_mean 0 0 67 [(2, v0), (0, v1), (0, x5), (0, iw ((m6 (m6 v0 8) 2) * (m6 (m6 v0 8) 3))), (0, x8)] [(1, iw (Int.tdiv (iw ((m6 (m6 v0 8) 2) * (m6 (m6 v0 8) 3))) x8))] kd m9 (zqL kd q)
          exact EvX.ret (r := (1, iw (Int.tdiv (iw ((m6 (m6 v0 8) 2) * (m6 (m6 v0 8) 3))) x8))) (by decide +kernel) rfl ⟨_, rfl, rfl, h⟩
        · have h := h.2 hc
          refine EvX.blk (pc' := 59) [(.iload_n 2, 0, 0)] (by decide +kernel) trivial ?_
          show Ev (d + 1) M_Ap_mean 0 0 59 [(2, v0), (0, v1), (0, x5), (0, iw ((m6 (m6 v0 8) 2) * (m6 (m6 v0 8) 3))), (0, x8)] [(0, x5)] kd m9 (zqL kd q)
          refine EvX.goto (off := 4) (tgt := 63) (by decide +kernel) (by decide) ?_
          obtain ⟨o1, h⟩ := h
          refine EvX.blk (pc' := 67) [(.iload 4, 0, 0), (.idiv, 0, 0), (.i2l, 0, 0)] (by decide +kernel) trivial ⟨o1, ?_⟩
          show Ev (d + 1) M_Ap_mean 0 0 67 [(2, v0), (0, v1), (0, x5), (0, iw ((m6 (m6 v0 8) 2) * (m6 (m6 v0 8) 3))), (0, x8)] [(1, iw (Int.tdiv x5 x8))] kd m9 (zqL kd q)
          exact EvX.ret (r := (1, iw (Int.tdiv x5 x8))) (by decide +kernel) rfl ⟨_, rfl, rfl, h⟩
      · have h := h.2 hc
        refine EvX.blk (pc' := 22) [(.ldc2_w 223, 0, (-1))] (by decide +kernel) ⟨z_Ap_223, trivial⟩ ?_
        show Ev (d + 1) M_Ap_mean 0 0 22 [(2, v0), (0, v1), zJ, zJ, zJ] [(1, (-1))] kd m3 (zqL kd q)
        exact EvX.ret (r := (1, (-1))) (by decide +kernel) rfl ⟨_, rfl, rfl, h⟩
theorem S_Ap_mean {d : Nat} {kd : ZK} {m : ZM} {q : Int → ZM → Prop} {v0 v1 : Int} (h : (zobj kd v0 7 ∧ (zobj kd (m v0 8) 1 ∧ ∃ q1, CtI d M_Game_isTold [(2, m v0 8)] kd m q1 ∧ ∀ x2 m3, q1 x2 m3 → ((x2 = 0 → q (-1) m3) ∧ (¬ x2 = 0 → ((v1 < 0 → q (-1) m3) ∧ (¬ v1 < 0 → ((v1 ≤ 1 → (zobj kd v0 7 ∧ (zobj kd (m3 v0 8) 1 ∧ ∃ q4, CtI d M_Game_weightOfWinningSpots [(2, m3 v0 8)] kd m3 q4 ∧ ∀ x5 m6, q4 x5 m6 → (zobj kd v0 7 ∧ zobj kd (m6 v0 8) 1 ∧ zobj kd v0 7 ∧ zobj kd (m6 v0 8) 1 ∧ (∃ q7, CtI d M_Ap_commonDivisor [(0, x5), (0, iw ((m6 (m6 v0 8) 2) * (m6 (m6 v0 8) 3)))] kd m6 q7 ∧ ∀ x8 m9, q7 x8 m9 → ((v1 ≠ 0 → (x8 ≠ 0 ∧ q (iw (Int.tdiv (iw ((m6 (m6 v0 8) 2) * (m6 (m6 v0 8) 3))) x8)) m9)) ∧ (¬ v1 ≠ 0 → (x8 ≠ 0 ∧ q (iw (Int.tdiv x5 x8)) m9)))))))) ∧ (¬ v1 ≤ 1 → q (-1) m3))))))))) : CtL (d + 1) M_Ap_mean [(2, v0), (0, v1)] kd m q :=
  Ct.start k_Ap_mean (Nat.le_of_ble_eq_true rfl) ⟨3, Or.inr (Or.inr (Or.inr (Or.inl ⟨rfl, rfl⟩)))⟩ (T_Ap_mean_0 h)
set_option maxRecDepth 20000 in
set_option maxHeartbeats 1000000 in
theorem T_Ap_talk_0 {d : Nat} {kd : ZK} {m : ZM} {q : Int → ZM → Prop} {v0 v1 : Int} (h : (zobj kd v0 7 ∧ (zobj kd (m v0 8) 1 ∧ ∃ q1, CtI d M_Game_isTold [(2, m v0 8)] kd m q1 ∧ ∀ x2 m3, q1 x2 m3 → ((x2 = 0 → q (-1) m3) ∧ (¬ x2 = 0 → ((v1 < 0 → q (-1) m3) ∧ (¬ v1 < 0 → ((v1 ≤ 1 → (zobj kd v0 7 ∧ zobj kd (m3 v0 8) 1 ∧ (Ev (d + 1) M_Ap_talk 0 0 39 [(2, v0), (0, v1), (0, zshl 1 (m3 (m3 v0 8) 0)), (0, (-1)), (0, 0), (0, 0), zJ] [] kd m3 (zqI kd q)))) ∧ (¬ v1 ≤ 1 → q (-1) m3))))))))) : Ev (d + 1) M_Ap_talk 0 0 0 [(2, v0), (0, v1), zJ, zJ, zJ, zJ, zJ] [] kd m (zqI kd q) := by
  obtain ⟨o1, h⟩ := h
  refine EvX.blk (pc' := 4) [(.aload_n 0, 0, 0), (.getfield 62, 7, 8)] (by decide +kernel) ⟨g_Ap_62, trivial⟩ ⟨o1, ?_⟩
  show Ev (d + 1) M_Ap_talk 0 0 4 [(2, v0), (0, v1), zJ, zJ, zJ, zJ, zJ] [(2, m v0 8)] kd m (zqI kd q)
  obtain ⟨ov, h⟩ := h
  obtain ⟨q1, hq, h⟩ := h
  refine EvX.callV (c := 1) (mc := 0) (ms := 0) (as := []) (st := []) (by decide +kernel) l_Ap_135 k_Game_isTold v_Game_isTold a_Game_isTold (by decide) (Nat.le_of_ble_eq_true rfl) rfl ov hq (fun r kd1 m3 hr => ?_)
  obtain ⟨x2, rfl, hk, hr⟩ := hr
  subst kd1
  have h := h x2 m3 hr
  show Ev (d + 1) M_Ap_talk 0 0 7 [(2, v0), (0, v1), zJ, zJ, zJ, zJ, zJ] [(0, x2)] kd m3 (zqI kd q)
  refine EvX.if_eq (off := 12) (tgt := 19) (by decide +kernel) (by decide) (fun hc => ?_) (fun hc => ?_)
  · have h := h.1 hc
    refine EvX.blk (pc' := 20) [(.iconst (-1), 0, 0)] (by decide +kernel) trivial ?_
    show Ev (d + 1) M_Ap_talk 0 0 20 [(2, v0), (0, v1), zJ, zJ, zJ, zJ, zJ] [(0, (-1))] kd m3 (zqI kd q)
    exact EvX.ret (r := (0, (-1))) (by decide +kernel) rfl ⟨_, rfl, rfl, h⟩
  · have h := h.2 hc
    refine EvX.blk (pc' := 11) [(.iload_n 1, 0, 0)] (by decide +kernel) trivial ?_
    show Ev (d + 1) M_Ap_talk 0 0 11 [(2, v0), (0, v1), zJ, zJ, zJ, zJ, zJ] [(0, v1)] kd m3 (zqI kd q)
    refine EvX.if_lt (off := 8) (tgt := 19) (by decide +kernel) (by decide) (fun hc => ?_) (fun hc => ?_)
    · have h := h.1 hc
      refine EvX.blk (pc' := 20) [(.iconst (-1), 0, 0)] (by decide +kernel) trivial ?_
      show Ev (d + 1) M_Ap_talk 0 0 20 [(2, v0), (0, v1), zJ, zJ, zJ, zJ, zJ] [(0, (-1))] kd m3 (zqI kd q)
      exact EvX.ret (r := (0, (-1))) (by decide +kernel) rfl ⟨_, rfl, rfl, h⟩
    · have h := h.2 hc
      refine EvX.blk (pc' := 16) [(.iload_n 1, 0, 0), (.iconst 1, 0, 0)] (by decide +kernel) trivial ?_
      show Ev (d + 1) M_Ap_talk 0 0 16 [(2, v0), (0, v1), zJ, zJ, zJ, zJ, zJ] [(0, 1), (0, v1)] kd m3 (zqI kd q)
      refine EvX.icmp_le (off := 5) (tgt := 21) (by decide +kernel) (by decide) (fun hc => ?_) (fun hc => ?_)
      · have h := h.1 hc
        obtain ⟨o1, o2, h⟩ := h
        refine EvX.blk (pc' := 39) [(.iconst 1, 0, 0), (.aload_n 0, 0, 0), (.getfield 62, 7, 8), (.getfield 90, 1, 0), (.ishl, 0, 0), (.istore_n 2, 0, 0), (.iconst (-1), 0, 0), (.istore_n 3, 0, 0), (.iconst 0, 0, 0), (.istore 4, 0, 0), (.iconst 0, 0, 0), (.istore 5, 0, 0)] (by decide +kernel) ⟨g_Ap_62, g_Ap_90, trivial⟩ ⟨o1, o2, ?_⟩
        show Ev (d + 1) M_Ap_talk 0 0 39 [(2, v0), (0, v1), (0, zshl 1 (m3 (m3 v0 8) 0)), (0, (-1)), (0, 0), (0, 0), zJ] [] kd m3 (zqI kd q)
        exact h
      · have h := h.2 hc
        refine EvX.blk (pc' := 20) [(.iconst (-1), 0, 0)] (by decide +kernel) trivial ?_
        show Ev (d + 1) M_Ap_talk 0 0 20 [(2, v0), (0, v1), zJ, zJ, zJ, zJ, zJ] [(0, (-1))] kd m3 (zqI kd q)
        exact EvX.ret (r := (0, (-1))) (by decide +kernel) rfl ⟨_, rfl, rfl, h⟩
theorem S_Ap_talk {d : Nat} {kd : ZK} {m : ZM} {q : Int → ZM → Prop} {v0 v1 : Int} (h : (zobj kd v0 7 ∧ (zobj kd (m v0 8) 1 ∧ ∃ q1, CtI d M_Game_isTold [(2, m v0 8)] kd m q1 ∧ ∀ x2 m3, q1 x2 m3 → ((x2 = 0 → q (-1) m3) ∧ (¬ x2 = 0 → ((v1 < 0 → q (-1) m3) ∧ (¬ v1 < 0 → ((v1 ≤ 1 → (zobj kd v0 7 ∧ zobj kd (m3 v0 8) 1 ∧ (Ev (d + 1) M_Ap_talk 0 0 39 [(2, v0), (0, v1), (0, zshl 1 (m3 (m3 v0 8) 0)), (0, (-1)), (0, 0), (0, 0), zJ] [] kd m3 (zqI kd q)))) ∧ (¬ v1 ≤ 1 → q (-1) m3))))))))) : CtI (d + 1) M_Ap_talk [(2, v0), (0, v1)] kd m q :=
  Ct.start k_Ap_talk (Nat.le_of_ble_eq_true rfl) ⟨1, Or.inr (Or.inl ⟨rfl, rfl⟩)⟩ (T_Ap_talk_0 h)
set_option maxRecDepth 20000 in
set_option maxHeartbeats 1000000 in
theorem T_Ap_talk_39 {d : Nat} {kd : ZK} {m : ZM} {q : Int → ZM → Prop} {v0 v1 v2 v3 v4 v5 : Int} (h : ((v2 ≤ v5 → ((v1 ≠ 0 → q v4 m) ∧ (¬ v1 ≠ 0 → q v3 m))) ∧ (¬ v2 ≤ v5 → (zobj kd v0 7 ∧ ∃ q1, CtI d M_Ap_mostAsked [(2, v0), (0, v5)] kd m q1 ∧ ∀ x2 m3, q1 x2 m3 → (zobj kd v0 7 ∧ ∃ q4, CtI d M_Ap_mostAsked [(2, v0), (0, iw ((iw (v2 - 1)) - v5))] kd m3 q4 ∧ ∀ x5 m6, q4 x5 m6 → (((iw (x2 + x5)) ≤ v3 → (Ev (d + 1) M_Ap_talk 0 0 39 [(2, v0), (0, v1), (0, v2), (0, v3), (0, v4), (0, iw (v5 + 2)), zJ] [] kd m6 (zqI kd q))) ∧ (¬ (iw (x2 + x5)) ≤ v3 → (Ev (d + 1) M_Ap_talk 0 0 39 [(2, v0), (0, v1), (0, v2), (0, iw (x2 + x5)), (0, v5), (0, iw (v5 + 2)), zJ] [] kd m6 (zqI kd q))))))))) : Ev (d + 1) M_Ap_talk 0 0 39 [(2, v0), (0, v1), (0, v2), (0, v3), (0, v4), (0, v5), zJ] [] kd m (zqI kd q) := by
  refine EvX.blk (pc' := 42) [(.iload 5, 0, 0), (.iload_n 2, 0, 0)] (by decide +kernel) trivial ?_
  show Ev (d + 1) M_Ap_talk 0 0 42 [(2, v0), (0, v1), (0, v2), (0, v3), (0, v4), (0, v5), zJ] [(0, v2), (0, v5)] kd m (zqI kd q)
  refine EvX.icmp_ge (off := 41) (tgt := 83) (by decide +kernel) (by decide) (fun hc => ?_) (fun hc => ?_)
  · have h := h.1 hc
    refine EvX.blk (pc' := 84) [(.iload_n 1, 0, 0)] (by decide +kernel) trivial ?_
    show Ev (d + 1) M_Ap_talk 0 0 84 [(2, v0), (0, v1), (0, v2), (0, v3), (0, v4), (0, v5), zJ] [(0, v1)] kd m (zqI kd q)
    refine EvX.if_ne (off := 7) (tgt := 91) (by decide +kernel) (by decide) (fun hc => ?_) (fun hc => ?_)
    · have h := h.1 hc
      refine EvX.blk (pc' := 93) [(.iload 4, 0, 0)] (by decide +kernel) trivial ?_
      show Ev (d + 1) M_Ap_talk 0 0 93 [(2, v0), (0, v1), (0, v2), (0, v3), (0, v4), (0, v5), zJ] [(0, v4)] kd m (zqI kd q)
      exact EvX.ret (r := (0, v4)) (by decide +kernel) rfl ⟨_, rfl, rfl, h⟩
    · have h := h.2 hc
      refine EvX.blk (pc' := 88) [(.iload_n 3, 0, 0)] (by decide +kernel) trivial ?_
      show Ev (d + 1) M_Ap_talk 0 0 88 [(2, v0), (0, v1), (0, v2), (0, v3), (0, v4), (0, v5), zJ] [(0, v3)] kd m (zqI kd q)
      refine EvX.goto (off := 5) (tgt := 93) (by decide +kernel) (by decide) ?_
      exact EvX.ret (r := (0, v3)) (by decide +kernel) rfl ⟨_, rfl, rfl, h⟩
  · have h := h.2 hc
    refine EvX.blk (pc' := 48) [(.aload_n 0, 0, 0), (.iload 5, 0, 0)] (by decide +kernel) trivial ?_
    show Ev (d + 1) M_Ap_talk 0 0 48 [(2, v0), (0, v1), (0, v2), (0, v3), (0, v4), (0, v5), zJ] [(0, v5), (2, v0)] kd m (zqI kd q)
    obtain ⟨ov, h⟩ := h
    obtain ⟨q1, hq, h⟩ := h
    refine EvX.callV (c := 7) (mc := 0) (ms := 0) (as := [(0, v5)]) (st := []) (by decide +kernel) l_Ap_248 k_Ap_mostAsked v_Ap_mostAsked a_Ap_mostAsked (by decide) (Nat.le_of_ble_eq_true rfl) rfl ov hq (fun r kd1 m3 hr => ?_)
    obtain ⟨x2, rfl, hk, hr⟩ := hr
    subst kd1
    have h := h x2 m3 hr
    show Ev (d + 1) M_Ap_talk 0 0 51 [(2, v0), (0, v1), (0, v2), (0, v3), (0, v4), (0, v5), zJ] [(0, x2)] kd m3 (zqI kd q)
    refine EvX.blk (pc' := 58) [(.aload_n 0, 0, 0), (.iload_n 2, 0, 0), (.iconst 1, 0, 0), (.isub, 0, 0), (.iload 5, 0, 0), (.isub, 0, 0)] (by decide +kernel) trivial ?_
    show Ev (d + 1) M_Ap_talk 0 0 58 [(2, v0), (0, v1), (0, v2), (0, v3), (0, v4), (0, v5), zJ] [(0, iw ((iw (v2 - 1)) - v5)), (2, v0), (0, x2)] kd m3 (zqI kd q)
    obtain ⟨ov, h⟩ := h
    obtain ⟨q4, hq, h⟩ := h
    refine EvX.callV (c := 7) (mc := 0) (ms := 0) (as := [(0, iw ((iw (v2 - 1)) - v5))]) (st := [(0, x2)]) (by decide +kernel) l_Ap_248 k_Ap_mostAsked v_Ap_mostAsked a_Ap_mostAsked (by decide) (Nat.le_of_ble_eq_true rfl) rfl ov hq (fun r kd1 m6 hr => ?_)
    obtain ⟨x5, rfl, hk, hr⟩ := hr
    subst kd1
    have h := h x5 m6 hr
    show Ev (d + 1) M_Ap_talk 0 0 61 [(2, v0), (0, v1), (0, v2), (0, v3), (0, v4), (0, v5), zJ] [(0, x5), (0, x2)] kd m6 (zqI kd q)
    refine EvX.blk (pc' := 67) [(.iadd, 0, 0), (.istore 6, 0, 0), (.iload 6, 0, 0), (.iload_n 3, 0, 0)] (by decide +kernel) trivial ?_
    show Ev (d + 1) M_Ap_talk 0 0 67 [(2, v0), (0, v1), (0, v2), (0, v3), (0, v4), (0, v5), (0, iw (x2 + x5))] [(0, v3), (0, iw (x2 + x5))] kd m6 (zqI kd q)
    refine EvX.icmp_le (off := 10) (tgt := 77) (by decide +kernel) (by decide) (fun hc => ?_) (fun hc => ?_)
    · have h := h.1 hc
      refine EvX.blk (pc' := 80) [(.iinc 5 2, 0, 0)] (by decide +kernel) trivial ?_
      show Ev (d + 1) M_Ap_talk 0 0 80 [(2, v0), (0, v1), (0, v2), (0, v3), (0, v4), (0, iw (v5 + 2)), (0, iw (x2 + x5))] [] kd m6 (zqI kd q)
      refine EvX.goto (off := (-41)) (tgt := 39) (by decide +kernel) (by decide) ?_
      exact EvX.weak (ls2 := [(2, v0), (0, v1), (0, v2), (0, v3), (0, v4), (0, iw (v5 + 2)), zJ]) (zwk_of ⟨Or.inr rfl, Or.inr rfl, Or.inr rfl, Or.inr rfl, Or.inr rfl, Or.inr rfl, Or.inl rfl, trivial⟩) h
    · have h := h.2 hc
      refine EvX.blk (pc' := 80) [(.iload 6, 0, 0), (.istore_n 3, 0, 0), (.iload 5, 0, 0), (.istore 4, 0, 0), (.iinc 5 2, 0, 0)] (by decide +kernel) trivial ?_
      show Ev (d + 1) M_Ap_talk 0 0 80 [(2, v0), (0, v1), (0, v2), (0, iw (x2 + x5)), (0, v5), (0, iw (v5 + 2)), (0, iw (x2 + x5))] [] kd m6 (zqI kd q)
      refine EvX.goto (off := (-41)) (tgt := 39) (by decide +kernel) (by decide) ?_
      exact EvX.weak (ls2 := [(2, v0), (0, v1), (0, v2), (0, iw (x2 + x5)), (0, v5), (0, iw (v5 + 2)), zJ]) (zwk_of ⟨Or.inr rfl, Or.inr rfl, Or.inr rfl, Or.inr rfl, Or.inr rfl, Or.inr rfl, Or.inl rfl, trivial⟩) h
set_option maxRecDepth 20000 in
set_option maxHeartbeats 1000000 in
theorem T_Ap_without_0 {d : Nat} {kd : ZK} {m : ZM} {q : Int → ZM → Prop} {v0 v1 v2 : Int} (h : (zobj kd v0 7 ∧ (zobj kd (m v0 8) 1 ∧ ∃ q1, CtI d M_Game_hasQuestion [(2, m v0 8), (0, v1), (0, v2)] kd m q1 ∧ ∀ x2 m3, q1 x2 m3 → ((x2 ≠ 0 → (zobj kd v0 7 ∧ zobj kd v0 7 ∧ (zobj kd (m3 v0 9) 1 ∧ ∃ q4, CtV d M_Game_become [(2, m3 v0 9), (2, m3 v0 8)] kd m3 q4 ∧ ∀ m6, q4 m6 → (Ev (d + 1) M_Ap_without 0 0 27 [(2, v0), (0, v1), (0, v2), (0, 0)] [] kd m6 (zqI kd q))))) ∧ (¬ x2 ≠ 0 → q (-1) m3))))) : Ev (d + 1) M_Ap_without 0 0 0 [(2, v0), (0, v1), (0, v2), zJ] [] kd m (zqI kd q) := by
  obtain ⟨o1, h⟩ := h
  refine EvX.blk (pc' := 6) [(.aload_n 0, 0, 0), (.getfield 62, 7, 8), (.iload_n 1, 0, 0), (.iload_n 2, 0, 0)] (by decide +kernel) ⟨g_Ap_62, trivial⟩ ⟨o1, ?_⟩
  show Ev (d + 1) M_Ap_without 0 0 6 [(2, v0), (0, v1), (0, v2), zJ] [(0, v2), (0, v1), (2, m v0 8)] kd m (zqI kd q)
  obtain ⟨ov, h⟩ := h
  obtain ⟨q1, hq, h⟩ := h
  refine EvX.callV (c := 1) (mc := 0) (ms := 0) (as := [(0, v1), (0, v2)]) (st := []) (by decide +kernel) l_Ap_141 k_Game_hasQuestion v_Game_hasQuestion a_Game_hasQuestion (by decide) (Nat.le_of_ble_eq_true rfl) rfl ov hq (fun r kd1 m3 hr => ?_)
  obtain ⟨x2, rfl, hk, hr⟩ := hr
  subst kd1
  have h := h x2 m3 hr
  show Ev (d + 1) M_Ap_without 0 0 9 [(2, v0), (0, v1), (0, v2), zJ] [(0, x2)] kd m3 (zqI kd q)
  refine EvX.if_ne (off := 5) (tgt := 14) (by decide +kernel) (by decide) (fun hc => ?_) (fun hc => ?_)
  · have h := h.1 hc
    obtain ⟨o1, o2, h⟩ := h
    refine EvX.blk (pc' := 22) [(.aload_n 0, 0, 0), (.getfield 66, 7, 9), (.aload_n 0, 0, 0), (.getfield 62, 7, 8)] (by decide +kernel) ⟨g_Ap_66, g_Ap_62, trivial⟩ ⟨o1, o2, ?_⟩
    show Ev (d + 1) M_Ap_without 0 0 22 [(2, v0), (0, v1), (0, v2), zJ] [(2, m3 v0 8), (2, m3 v0 9)] kd m3 (zqI kd q)
    obtain ⟨ov, h⟩ := h
    obtain ⟨q4, hq, h⟩ := h
    refine EvX.callV (c := 1) (mc := 0) (ms := 0) (as := [(2, m3 v0 8)]) (st := []) (by decide +kernel) l_Ap_181 k_Game_become v_Game_become a_Game_become (by decide) (Nat.le_of_ble_eq_true rfl) rfl ov hq (fun r kd1 m6 hr => ?_)
    obtain ⟨rfl, hk, hr⟩ := hr
    subst kd1
    have h := h m6 hr
    show Ev (d + 1) M_Ap_without 0 0 25 [(2, v0), (0, v1), (0, v2), zJ] [] kd m6 (zqI kd q)
    refine EvX.blk (pc' := 27) [(.iconst 0, 0, 0), (.istore_n 3, 0, 0)] (by decide +kernel) trivial ?_
    show Ev (d + 1) M_Ap_without 0 0 27 [(2, v0), (0, v1), (0, v2), (0, 0)] [] kd m6 (zqI kd q)
    exact h
  · have h := h.2 hc
    refine EvX.blk (pc' := 13) [(.iconst (-1), 0, 0)] (by decide +kernel) trivial ?_
    show Ev (d + 1) M_Ap_without 0 0 13 [(2, v0), (0, v1), (0, v2), zJ] [(0, (-1))] kd m3 (zqI kd q)
    exact EvX.ret (r := (0, (-1))) (by decide +kernel) rfl ⟨_, rfl, rfl, h⟩
theorem S_Ap_without {d : Nat} {kd : ZK} {m : ZM} {q : Int → ZM → Prop} {v0 v1 v2 : Int} (h : (zobj kd v0 7 ∧ (zobj kd (m v0 8) 1 ∧ ∃ q1, CtI d M_Game_hasQuestion [(2, m v0 8), (0, v1), (0, v2)] kd m q1 ∧ ∀ x2 m3, q1 x2 m3 → ((x2 ≠ 0 → (zobj kd v0 7 ∧ zobj kd v0 7 ∧ (zobj kd (m3 v0 9) 1 ∧ ∃ q4, CtV d M_Game_become [(2, m3 v0 9), (2, m3 v0 8)] kd m3 q4 ∧ ∀ m6, q4 m6 → (Ev (d + 1) M_Ap_without 0 0 27 [(2, v0), (0, v1), (0, v2), (0, 0)] [] kd m6 (zqI kd q))))) ∧ (¬ x2 ≠ 0 → q (-1) m3))))) : CtI (d + 1) M_Ap_without [(2, v0), (0, v1), (0, v2)] kd m q :=
  Ct.start k_Ap_without (Nat.le_of_ble_eq_true rfl) ⟨1, Or.inr (Or.inl ⟨rfl, rfl⟩)⟩ (T_Ap_without_0 h)
set_option maxRecDepth 20000 in
set_option maxHeartbeats 1000000 in
theorem T_Ap_without_27 {d : Nat} {kd : ZK} {m : ZM} {q : Int → ZM → Prop} {v0 v1 v2 v3 : Int} (h : (zobj kd v0 7 ∧ (zobj kd (m v0 9) 1 ∧ ∃ q1, CtI d M_Game_questionsOf [(2, m v0 9), (0, iw (1 - v1))] kd m q1 ∧ ∀ x2 m3, q1 x2 m3 → ((x2 ≤ v3 → (zobj kd v0 7 ∧ (zobj kd v0 7 ∧ ∃ q4, CtI d M_Ap_mostOf [(2, v0), (2, m3 v0 9)] kd m3 q4 ∧ ∀ x5 m6, q4 x5 m6 → q x5 m6))) ∧ (¬ x2 ≤ v3 → (zobj kd v0 7 ∧ zobj kd (m3 v0 9) 1 ∧ (∃ q7, CtI d M_Ap_cellOf [(0, v1), (0, v2), (0, v3)] kd m3 q7 ∧ ∀ x8 m9, q7 x8 m9 → (zIn kd (m3 (m3 v0 9) 4) 0 x8 ∧ (Ev (d + 1) M_Ap_without 0 0 27 [(2, v0), (0, v1), (0, v2), (0, iw (v3 + 1))] [] kd (zup m9 (m3 (m3 v0 9) 4) x8 0) (zqI kd q)))))))))) : Ev (d + 1) M_Ap_without 0 0 27 [(2, v0), (0, v1), (0, v2), (0, v3)] [] kd m (zqI kd q) := by
  obtain ⟨o1, h⟩ := h
  refine EvX.blk (pc' := 35) [(.iload_n 3, 0, 0), (.aload_n 0, 0, 0), (.getfield 66, 7, 9), (.iconst 1, 0, 0), (.iload_n 1, 0, 0), (.isub, 0, 0)] (by decide +kernel) ⟨g_Ap_66, trivial⟩ ⟨o1, ?_⟩
  show Ev (d + 1) M_Ap_without 0 0 35 [(2, v0), (0, v1), (0, v2), (0, v3)] [(0, iw (1 - v1)), (2, m v0 9), (0, v3)] kd m (zqI kd q)
  obtain ⟨ov, h⟩ := h
  obtain ⟨q1, hq, h⟩ := h
  refine EvX.callV (c := 1) (mc := 0) (ms := 0) (as := [(0, iw (1 - v1))]) (st := [(0, v3)]) (by decide +kernel) l_Ap_144 k_Game_questionsOf v_Game_questionsOf a_Game_questionsOf (by decide) (Nat.le_of_ble_eq_true rfl) rfl ov hq (fun r kd1 m3 hr => ?_)
  obtain ⟨x2, rfl, hk, hr⟩ := hr
  subst kd1
  have h := h x2 m3 hr
  show Ev (d + 1) M_Ap_without 0 0 38 [(2, v0), (0, v1), (0, v2), (0, v3)] [(0, x2), (0, v3)] kd m3 (zqI kd q)
  refine EvX.icmp_ge (off := 24) (tgt := 62) (by decide +kernel) (by decide) (fun hc => ?_) (fun hc => ?_)
  · have h := h.1 hc
    obtain ⟨o1, h⟩ := h
    refine EvX.blk (pc' := 67) [(.aload_n 0, 0, 0), (.aload_n 0, 0, 0), (.getfield 66, 7, 9)] (by decide +kernel) ⟨g_Ap_66, trivial⟩ ⟨o1, ?_⟩
    show Ev (d + 1) M_Ap_without 0 0 67 [(2, v0), (0, v1), (0, v2), (0, v3)] [(2, m3 v0 9), (2, v0)] kd m3 (zqI kd q)
    obtain ⟨ov, h⟩ := h
    obtain ⟨q4, hq, h⟩ := h
    refine EvX.callV (c := 7) (mc := 0) (ms := 0) (as := [(2, m3 v0 9)]) (st := []) (by decide +kernel) l_Ap_184 k_Ap_mostOf v_Ap_mostOf a_Ap_mostOf (by decide) (Nat.le_of_ble_eq_true rfl) rfl ov hq (fun r kd1 m6 hr => ?_)
    obtain ⟨x5, rfl, hk, hr⟩ := hr
    subst kd1
    have h := h x5 m6 hr
    show Ev (d + 1) M_Ap_without 0 0 70 [(2, v0), (0, v1), (0, v2), (0, v3)] [(0, x5)] kd m6 (zqI kd q)
    exact EvX.ret (r := (0, x5)) (by decide +kernel) rfl ⟨_, rfl, rfl, h⟩
  · have h := h.2 hc
    obtain ⟨o1, o2, h⟩ := h
    refine EvX.blk (pc' := 51) [(.aload_n 0, 0, 0), (.getfield 66, 7, 9), (.getfield 101, 1, 4), (.iload_n 1, 0, 0), (.iload_n 2, 0, 0), (.iload_n 3, 0, 0)] (by decide +kernel) ⟨g_Ap_66, g_Ap_101, trivial⟩ ⟨o1, o2, ?_⟩
    show Ev (d + 1) M_Ap_without 0 0 51 [(2, v0), (0, v1), (0, v2), (0, v3)] [(0, v3), (0, v2), (0, v1), (2, m3 (m3 v0 9) 4)] kd m3 (zqI kd q)
    obtain ⟨q7, hq, h⟩ := h
    refine EvX.callS (mc := 0) (ms := 0) (as := [(0, v1), (0, v2), (0, v3)]) (st := [(2, m3 (m3 v0 9) 4)]) (by decide +kernel) l_Ap_97 k_Ap_cellOf s_Ap_cellOf a_Ap_cellOf (by decide) (Nat.le_of_ble_eq_true rfl) hq (fun r kd1 m9 hr => ?_)
    obtain ⟨x8, rfl, hk, hr⟩ := hr
    subst kd1
    have h := h x8 m9 hr
    show Ev (d + 1) M_Ap_without 0 0 54 [(2, v0), (0, v1), (0, v2), (0, v3)] [(0, x8), (2, m3 (m3 v0 9) 4)] kd m9 (zqI kd q)
    obtain ⟨o1, h⟩ := h
    refine EvX.blk (pc' := 59) [(.iconst 0, 0, 0), (.iastore, 0, 0), (.iinc 3 1, 0, 0)] (by decide +kernel) trivial ⟨o1, ?_⟩
    show Ev (d + 1) M_Ap_without 0 0 59 [(2, v0), (0, v1), (0, v2), (0, iw (v3 + 1))] [] kd (zup m9 (m3 (m3 v0 9) 4) x8 0) (zqI kd q)
    refine EvX.goto (off := (-32)) (tgt := 27) (by decide +kernel) (by decide) ?_
    exact h
set_option maxRecDepth 20000 in
set_option maxHeartbeats 1000000 in
theorem T_Ap_lesser_0 {d : Nat} {kd : ZK} {m : ZM} {q : Int → ZM → Prop} {v0 v1 v2 v3 v4 : Int} (h : (zobj kd v0 7 ∧ (zobj kd (m v0 8) 1 ∧ ∃ q1, CtI d M_Game_hasTwoAnswers [(2, m v0 8), (0, v1), (0, v2), (0, v3), (0, v4)] kd m q1 ∧ ∀ x2 m3, q1 x2 m3 → ((x2 ≠ 0 → (zobj kd v0 7 ∧ (zobj kd (m3 v0 8) 1 ∧ ∃ q4, CtI d M_Game_isLesser [(2, m3 v0 8), (0, v1), (0, v2), (0, v3), (0, v4)] kd m3 q4 ∧ ∀ x5 m6, q4 x5 m6 → ((x5 = 0 → q 0 m6) ∧ (¬ x5 = 0 → q 1 m6))))) ∧ (¬ x2 ≠ 0 → q (-1) m3))))) : Ev (d + 1) M_Ap_lesser 0 0 0 [(2, v0), (0, v1), (0, v2), (0, v3), (0, v4)] [] kd m (zqI kd q) := by
  obtain ⟨o1, h⟩ := h
  refine EvX.blk (pc' := 9) [(.aload_n 0, 0, 0), (.getfield 62, 7, 8), (.iload_n 1, 0, 0), (.iload_n 2, 0, 0), (.iload_n 3, 0, 0), (.iload 4, 0, 0)] (by decide +kernel) ⟨g_Ap_62, trivial⟩ ⟨o1, ?_⟩
  show Ev (d + 1) M_Ap_lesser 0 0 9 [(2, v0), (0, v1), (0, v2), (0, v3), (0, v4)] [(0, v4), (0, v3), (0, v2), (0, v1), (2, m v0 8)] kd m (zqI kd q)
  obtain ⟨ov, h⟩ := h
  obtain ⟨q1, hq, h⟩ := h
  refine EvX.callV (c := 1) (mc := 0) (ms := 0) (as := [(0, v1), (0, v2), (0, v3), (0, v4)]) (st := []) (by decide +kernel) l_Ap_128 k_Game_hasTwoAnswers v_Game_hasTwoAnswers a_Game_hasTwoAnswers (by decide) (Nat.le_of_ble_eq_true rfl) rfl ov hq (fun r kd1 m3 hr => ?_)
  obtain ⟨x2, rfl, hk, hr⟩ := hr
  subst kd1
  have h := h x2 m3 hr
  show Ev (d + 1) M_Ap_lesser 0 0 12 [(2, v0), (0, v1), (0, v2), (0, v3), (0, v4)] [(0, x2)] kd m3 (zqI kd q)
  refine EvX.if_ne (off := 5) (tgt := 17) (by decide +kernel) (by decide) (fun hc => ?_) (fun hc => ?_)
  · have h := h.1 hc
    obtain ⟨o1, h⟩ := h
    refine EvX.blk (pc' := 26) [(.aload_n 0, 0, 0), (.getfield 62, 7, 8), (.iload_n 1, 0, 0), (.iload_n 2, 0, 0), (.iload_n 3, 0, 0), (.iload 4, 0, 0)] (by decide +kernel) ⟨g_Ap_62, trivial⟩ ⟨o1, ?_⟩
    show Ev (d + 1) M_Ap_lesser 0 0 26 [(2, v0), (0, v1), (0, v2), (0, v3), (0, v4)] [(0, v4), (0, v3), (0, v2), (0, v1), (2, m3 v0 8)] kd m3 (zqI kd q)
    obtain ⟨ov, h⟩ := h
    obtain ⟨q4, hq, h⟩ := h
    refine EvX.callV (c := 1) (mc := 0) (ms := 0) (as := [(0, v1), (0, v2), (0, v3), (0, v4)]) (st := []) (by decide +kernel) l_Ap_251 k_Game_isLesser v_Game_isLesser a_Game_isLesser (by decide) (Nat.le_of_ble_eq_true rfl) rfl ov hq (fun r kd1 m6 hr => ?_)
    obtain ⟨x5, rfl, hk, hr⟩ := hr
    subst kd1
    have h := h x5 m6 hr
    show Ev (d + 1) M_Ap_lesser 0 0 29 [(2, v0), (0, v1), (0, v2), (0, v3), (0, v4)] [(0, x5)] kd m6 (zqI kd q)
    refine EvX.if_eq (off := 7) (tgt := 36) (by decide +kernel) (by decide) (fun hc => ?_) (fun hc => ?_)
    · have h := h.1 hc
      refine EvX.blk (pc' := 37) [(.iconst 0, 0, 0)] (by decide +kernel) trivial ?_
      show Ev (d + 1) M_Ap_lesser 0 0 37 [(2, v0), (0, v1), (0, v2), (0, v3), (0, v4)] [(0, 0)] kd m6 (zqI kd q)
      exact EvX.ret (r := (0, 0)) (by decide +kernel) rfl ⟨_, rfl, rfl, h⟩
    · have h := h.2 hc
      refine EvX.blk (pc' := 33) [(.iconst 1, 0, 0)] (by decide +kernel) trivial ?_
      show Ev (d + 1) M_Ap_lesser 0 0 33 [(2, v0), (0, v1), (0, v2), (0, v3), (0, v4)] [(0, 1)] kd m6 (zqI kd q)
      refine EvX.goto (off := 4) (tgt := 37) (by decide +kernel) (by decide) ?_
      exact EvX.ret (r := (0, 1)) (by decide +kernel) rfl ⟨_, rfl, rfl, h⟩
  · have h := h.2 hc
    refine EvX.blk (pc' := 16) [(.iconst (-1), 0, 0)] (by decide +kernel) trivial ?_
    show Ev (d + 1) M_Ap_lesser 0 0 16 [(2, v0), (0, v1), (0, v2), (0, v3), (0, v4)] [(0, (-1))] kd m3 (zqI kd q)
    exact EvX.ret (r := (0, (-1))) (by decide +kernel) rfl ⟨_, rfl, rfl, h⟩
theorem S_Ap_lesser {d : Nat} {kd : ZK} {m : ZM} {q : Int → ZM → Prop} {v0 v1 v2 v3 v4 : Int} (h : (zobj kd v0 7 ∧ (zobj kd (m v0 8) 1 ∧ ∃ q1, CtI d M_Game_hasTwoAnswers [(2, m v0 8), (0, v1), (0, v2), (0, v3), (0, v4)] kd m q1 ∧ ∀ x2 m3, q1 x2 m3 → ((x2 ≠ 0 → (zobj kd v0 7 ∧ (zobj kd (m3 v0 8) 1 ∧ ∃ q4, CtI d M_Game_isLesser [(2, m3 v0 8), (0, v1), (0, v2), (0, v3), (0, v4)] kd m3 q4 ∧ ∀ x5 m6, q4 x5 m6 → ((x5 = 0 → q 0 m6) ∧ (¬ x5 = 0 → q 1 m6))))) ∧ (¬ x2 ≠ 0 → q (-1) m3))))) : CtI (d + 1) M_Ap_lesser [(2, v0), (0, v1), (0, v2), (0, v3), (0, v4)] kd m q :=
  Ct.start k_Ap_lesser (Nat.le_of_ble_eq_true rfl) ⟨1, Or.inr (Or.inl ⟨rfl, rfl⟩)⟩ (T_Ap_lesser_0 h)
set_option maxRecDepth 20000 in
set_option maxHeartbeats 1000000 in
theorem T_Ap_same_0 {d : Nat} {kd : ZK} {m : ZM} {q : Int → ZM → Prop} {v0 v1 v2 v3 : Int} (h : (zobj kd v0 7 ∧ (zobj kd (m v0 8) 1 ∧ ∃ q1, CtI d M_Game_hasQuestion [(2, m v0 8), (0, v1), (0, v2)] kd m q1 ∧ ∀ x2 m3, q1 x2 m3 → ((x2 = 0 → q (-1) m3) ∧ (¬ x2 = 0 → (zobj kd v0 7 ∧ (zobj kd (m3 v0 8) 1 ∧ ∃ q4, CtI d M_Game_hasQuestion [(2, m3 v0 8), (0, v1), (0, v3)] kd m3 q4 ∧ ∀ x5 m6, q4 x5 m6 → ((x5 = 0 → q (-1) m6) ∧ (¬ x5 = 0 → ((v2 ≠ v3 → (zobj kd v0 7 ∧ (zobj kd (m6 v0 8) 1 ∧ ∃ q7, CtI d M_Game_areSame [(2, m6 v0 8), (0, v1), (0, v2), (0, v3)] kd m6 q7 ∧ ∀ x8 m9, q7 x8 m9 → ((x8 = 0 → q 0 m9) ∧ (¬ x8 = 0 → q 1 m9))))) ∧ (¬ v2 ≠ v3 → q (-1) m6))))))))))) : Ev (d + 1) M_Ap_same 0 0 0 [(2, v0), (0, v1), (0, v2), (0, v3)] [] kd m (zqI kd q) := by
  obtain ⟨o1, h⟩ := h
  refine EvX.blk (pc' := 6) [(.aload_n 0, 0, 0), (.getfield 62, 7, 8), (.iload_n 1, 0, 0), (.iload_n 2, 0, 0)] (by decide +kernel) ⟨g_Ap_62, trivial⟩ ⟨o1, ?_⟩
  show Ev (d + 1) M_Ap_same 0 0 6 [(2, v0), (0, v1), (0, v2), (0, v3)] [(0, v2), (0, v1), (2, m v0 8)] kd m (zqI kd q)
  obtain ⟨ov, h⟩ := h
  obtain ⟨q1, hq, h⟩ := h
  refine EvX.callV (c := 1) (mc := 0) (ms := 0) (as := [(0, v1), (0, v2)]) (st := []) (by decide +kernel) l_Ap_141 k_Game_hasQuestion v_Game_hasQuestion a_Game_hasQuestion (by decide) (Nat.le_of_ble_eq_true rfl) rfl ov hq (fun r kd1 m3 hr => ?_)
  obtain ⟨x2, rfl, hk, hr⟩ := hr
  subst kd1
  have h := h x2 m3 hr
  show Ev (d + 1) M_Ap_same 0 0 9 [(2, v0), (0, v1), (0, v2), (0, v3)] [(0, x2)] kd m3 (zqI kd q)
  refine EvX.if_eq (off := 20) (tgt := 29) (by decide +kernel) (by decide) (fun hc => ?_) (fun hc => ?_)
  · have h := h.1 hc
    refine EvX.blk (pc' := 30) [(.iconst (-1), 0, 0)] (by decide +kernel) trivial ?_
    show Ev (d + 1) M_Ap_same 0 0 30 [(2, v0), (0, v1), (0, v2), (0, v3)] [(0, (-1))] kd m3 (zqI kd q)
    exact EvX.ret (r := (0, (-1))) (by decide +kernel) rfl ⟨_, rfl, rfl, h⟩
  · have h := h.2 hc
    obtain ⟨o1, h⟩ := h
    refine EvX.blk (pc' := 18) [(.aload_n 0, 0, 0), (.getfield 62, 7, 8), (.iload_n 1, 0, 0), (.iload_n 3, 0, 0)] (by decide +kernel) ⟨g_Ap_62, trivial⟩ ⟨o1, ?_⟩
    show Ev (d + 1) M_Ap_same 0 0 18 [(2, v0), (0, v1), (0, v2), (0, v3)] [(0, v3), (0, v1), (2, m3 v0 8)] kd m3 (zqI kd q)
    obtain ⟨ov, h⟩ := h
    obtain ⟨q4, hq, h⟩ := h
    refine EvX.callV (c := 1) (mc := 0) (ms := 0) (as := [(0, v1), (0, v3)]) (st := []) (by decide +kernel) l_Ap_141 k_Game_hasQuestion v_Game_hasQuestion a_Game_hasQuestion (by decide) (Nat.le_of_ble_eq_true rfl) rfl ov hq (fun r kd1 m6 hr => ?_)
    obtain ⟨x5, rfl, hk, hr⟩ := hr
    subst kd1
    have h := h x5 m6 hr
    show Ev (d + 1) M_Ap_same 0 0 21 [(2, v0), (0, v1), (0, v2), (0, v3)] [(0, x5)] kd m6 (zqI kd q)
    refine EvX.if_eq (off := 8) (tgt := 29) (by decide +kernel) (by decide) (fun hc => ?_) (fun hc => ?_)
    · have h := h.1 hc
      refine EvX.blk (pc' := 30) [(.iconst (-1), 0, 0)] (by decide +kernel) trivial ?_
      show Ev (d + 1) M_Ap_same 0 0 30 [(2, v0), (0, v1), (0, v2), (0, v3)] [(0, (-1))] kd m6 (zqI kd q)
      exact EvX.ret (r := (0, (-1))) (by decide +kernel) rfl ⟨_, rfl, rfl, h⟩
    · have h := h.2 hc
      refine EvX.blk (pc' := 26) [(.iload_n 2, 0, 0), (.iload_n 3, 0, 0)] (by decide +kernel) trivial ?_
      show Ev (d + 1) M_Ap_same 0 0 26 [(2, v0), (0, v1), (0, v2), (0, v3)] [(0, v3), (0, v2)] kd m6 (zqI kd q)
      refine EvX.icmp_ne (off := 5) (tgt := 31) (by decide +kernel) (by decide) (fun hc => ?_) (fun hc => ?_)
      · have h := h.1 hc
        obtain ⟨o1, h⟩ := h
        refine EvX.blk (pc' := 38) [(.aload_n 0, 0, 0), (.getfield 62, 7, 8), (.iload_n 1, 0, 0), (.iload_n 2, 0, 0), (.iload_n 3, 0, 0)] (by decide +kernel) ⟨g_Ap_62, trivial⟩ ⟨o1, ?_⟩
        show Ev (d + 1) M_Ap_same 0 0 38 [(2, v0), (0, v1), (0, v2), (0, v3)] [(0, v3), (0, v2), (0, v1), (2, m6 v0 8)] kd m6 (zqI kd q)
        obtain ⟨ov, h⟩ := h
        obtain ⟨q7, hq, h⟩ := h
        refine EvX.callV (c := 1) (mc := 0) (ms := 0) (as := [(0, v1), (0, v2), (0, v3)]) (st := []) (by decide +kernel) l_Ap_254 k_Game_areSame v_Game_areSame a_Game_areSame (by decide) (Nat.le_of_ble_eq_true rfl) rfl ov hq (fun r kd1 m9 hr => ?_)
        obtain ⟨x8, rfl, hk, hr⟩ := hr
        subst kd1
        have h := h x8 m9 hr
        show Ev (d + 1) M_Ap_same 0 0 41 [(2, v0), (0, v1), (0, v2), (0, v3)] [(0, x8)] kd m9 (zqI kd q)
        refine EvX.if_eq (off := 7) (tgt := 48) (by decide +kernel) (by decide) (fun hc => ?_) (fun hc => ?_)
        · have h := h.1 hc
          refine EvX.blk (pc' := 49) [(.iconst 0, 0, 0)] (by decide +kernel) trivial ?_
          show Ev (d + 1) M_Ap_same 0 0 49 [(2, v0), (0, v1), (0, v2), (0, v3)] [(0, 0)] kd m9 (zqI kd q)
          exact EvX.ret (r := (0, 0)) (by decide +kernel) rfl ⟨_, rfl, rfl, h⟩
        · have h := h.2 hc
          refine EvX.blk (pc' := 45) [(.iconst 1, 0, 0)] (by decide +kernel) trivial ?_
          show Ev (d + 1) M_Ap_same 0 0 45 [(2, v0), (0, v1), (0, v2), (0, v3)] [(0, 1)] kd m9 (zqI kd q)
          refine EvX.goto (off := 4) (tgt := 49) (by decide +kernel) (by decide) ?_
          exact EvX.ret (r := (0, 1)) (by decide +kernel) rfl ⟨_, rfl, rfl, h⟩
      · have h := h.2 hc
        refine EvX.blk (pc' := 30) [(.iconst (-1), 0, 0)] (by decide +kernel) trivial ?_
        show Ev (d + 1) M_Ap_same 0 0 30 [(2, v0), (0, v1), (0, v2), (0, v3)] [(0, (-1))] kd m6 (zqI kd q)
        exact EvX.ret (r := (0, (-1))) (by decide +kernel) rfl ⟨_, rfl, rfl, h⟩
theorem S_Ap_same {d : Nat} {kd : ZK} {m : ZM} {q : Int → ZM → Prop} {v0 v1 v2 v3 : Int} (h : (zobj kd v0 7 ∧ (zobj kd (m v0 8) 1 ∧ ∃ q1, CtI d M_Game_hasQuestion [(2, m v0 8), (0, v1), (0, v2)] kd m q1 ∧ ∀ x2 m3, q1 x2 m3 → ((x2 = 0 → q (-1) m3) ∧ (¬ x2 = 0 → (zobj kd v0 7 ∧ (zobj kd (m3 v0 8) 1 ∧ ∃ q4, CtI d M_Game_hasQuestion [(2, m3 v0 8), (0, v1), (0, v3)] kd m3 q4 ∧ ∀ x5 m6, q4 x5 m6 → ((x5 = 0 → q (-1) m6) ∧ (¬ x5 = 0 → ((v2 ≠ v3 → (zobj kd v0 7 ∧ (zobj kd (m6 v0 8) 1 ∧ ∃ q7, CtI d M_Game_areSame [(2, m6 v0 8), (0, v1), (0, v2), (0, v3)] kd m6 q7 ∧ ∀ x8 m9, q7 x8 m9 → ((x8 = 0 → q 0 m9) ∧ (¬ x8 = 0 → q 1 m9))))) ∧ (¬ v2 ≠ v3 → q (-1) m6))))))))))) : CtI (d + 1) M_Ap_same [(2, v0), (0, v1), (0, v2), (0, v3)] kd m q :=
  Ct.start k_Ap_same (Nat.le_of_ble_eq_true rfl) ⟨1, Or.inr (Or.inl ⟨rfl, rfl⟩)⟩ (T_Ap_same_0 h)
set_option maxRecDepth 20000 in
set_option maxHeartbeats 1000000 in
theorem T_Ap_climb_0 {d : Nat} {kd : ZK} {m : ZM} {q : Int → ZM → Prop} {v0 v1 v2 v3 : Int} (h : (zobj kd v0 7 ∧ zobj kd v0 7 ∧ (zobj kd (m v0 3) 0 ∧ ∃ q1, CtI d M_Duo_takeBoth [(2, m v0 3), (2, m v0 8), (0, v1), (0, v2)] kd m q1 ∧ ∀ x2 m3, q1 x2 m3 → ((x2 = 0 → q (-1) m3) ∧ (¬ x2 = 0 → ((v3 < 0 → q (-1) m3) ∧ (¬ v3 < 0 → ((v3 ≤ 3 → (zobj kd v0 7 ∧ zobj kd v0 7 ∧ (zobj kd (m3 v0 3) 0 ∧ ∃ q4, CtI d M_Duo_climbUp [(2, m3 v0 3), (2, m3 v0 8)] kd m3 q4 ∧ ∀ x5 m6, q4 x5 m6 → (((v3 < 0 ∨ 2 < v3) → q x5 m6) ∧ (v3 = 0 → (zobj kd v0 7 ∧ zobj kd v0 7 ∧ (zobj kd (m6 v0 3) 0 ∧ ∃ q7, CtI d M_Duo_worthBoth [(2, m6 v0 3), (2, m6 v0 8)] kd m6 q7 ∧ ∀ x8 m9, q7 x8 m9 → q x8 m9))) ∧ (v3 = 1 → (zobj kd v0 7 ∧ zobj kd v0 7 ∧ (zobj kd (m6 v0 3) 0 ∧ ∃ q10, CtI d M_Duo_rowOf [(2, m6 v0 3), (2, m6 v0 8), (0, 0)] kd m6 q10 ∧ ∀ x11 m12, q10 x11 m12 → q x11 m12))) ∧ (v3 = 2 → (zobj kd v0 7 ∧ zobj kd v0 7 ∧ (zobj kd (m6 v0 3) 0 ∧ ∃ q13, CtI d M_Duo_rowOf [(2, m6 v0 3), (2, m6 v0 8), (0, 1)] kd m6 q13 ∧ ∀ x14 m15, q13 x14 m15 → q x14 m15))))))) ∧ (¬ v3 ≤ 3 → q (-1) m3))))))))) : Ev (d + 1) M_Ap_climb 0 0 0 [(2, v0), (0, v1), (0, v2), (0, v3), zJ] [] kd m (zqI kd q) := by
  obtain ⟨o1, o2, h⟩ := h
  refine EvX.blk (pc' := 10) [(.aload_n 0, 0, 0), (.getfield 33, 7, 3), (.aload_n 0, 0, 0), (.getfield 62, 7, 8), (.iload_n 1, 0, 0), (.iload_n 2, 0, 0)] (by decide +kernel) ⟨g_Ap_33, g_Ap_62, trivial⟩ ⟨o1, o2, ?_⟩
  show Ev (d + 1) M_Ap_climb 0 0 10 [(2, v0), (0, v1), (0, v2), (0, v3), zJ] [(0, v2), (0, v1), (2, m v0 8), (2, m v0 3)] kd m (zqI kd q)
  obtain ⟨ov, h⟩ := h
  obtain ⟨q1, hq, h⟩ := h
  refine EvX.callV (c := 0) (mc := 0) (ms := 0) (as := [(2, m v0 8), (0, v1), (0, v2)]) (st := []) (by decide +kernel) l_Ap_157 k_Duo_takeBoth v_Duo_takeBoth a_Duo_takeBoth (by decide) (Nat.le_of_ble_eq_true rfl) rfl ov hq (fun r kd1 m3 hr => ?_)
  obtain ⟨x2, rfl, hk, hr⟩ := hr
  subst kd1
  have h := h x2 m3 hr
  show Ev (d + 1) M_Ap_climb 0 0 13 [(2, v0), (0, v1), (0, v2), (0, v3), zJ] [(0, x2)] kd m3 (zqI kd q)
  refine EvX.if_eq (off := 12) (tgt := 25) (by decide +kernel) (by decide) (fun hc => ?_) (fun hc => ?_)
  · have h := h.1 hc
    refine EvX.blk (pc' := 26) [(.iconst (-1), 0, 0)] (by decide +kernel) trivial ?_
    show Ev (d + 1) M_Ap_climb 0 0 26 [(2, v0), (0, v1), (0, v2), (0, v3), zJ] [(0, (-1))] kd m3 (zqI kd q)
    exact EvX.ret (r := (0, (-1))) (by decide +kernel) rfl ⟨_, rfl, rfl, h⟩
  · have h := h.2 hc
    refine EvX.blk (pc' := 17) [(.iload_n 3, 0, 0)] (by decide +kernel) trivial ?_
    show Ev (d + 1) M_Ap_climb 0 0 17 [(2, v0), (0, v1), (0, v2), (0, v3), zJ] [(0, v3)] kd m3 (zqI kd q)
    refine EvX.if_lt (off := 8) (tgt := 25) (by decide +kernel) (by decide) (fun hc => ?_) (fun hc => ?_)
    · have h := h.1 hc
      refine EvX.blk (pc' := 26) [(.iconst (-1), 0, 0)] (by decide +kernel) trivial ?_
      show Ev (d + 1) M_Ap_climb 0 0 26 [(2, v0), (0, v1), (0, v2), (0, v3), zJ] [(0, (-1))] kd m3 (zqI kd q)
      exact EvX.ret (r := (0, (-1))) (by decide +kernel) rfl ⟨_, rfl, rfl, h⟩
    · have h := h.2 hc
      refine EvX.blk (pc' := 22) [(.iload_n 3, 0, 0), (.iconst 3, 0, 0)] (by decide +kernel) trivial ?_
      show Ev (d + 1) M_Ap_climb 0 0 22 [(2, v0), (0, v1), (0, v2), (0, v3), zJ] [(0, 3), (0, v3)] kd m3 (zqI kd q)
      refine EvX.icmp_le (off := 5) (tgt := 27) (by decide +kernel) (by decide) (fun hc => ?_) (fun hc => ?_)
      · have h := h.1 hc
        obtain ⟨o1, o2, h⟩ := h
        refine EvX.blk (pc' := 35) [(.aload_n 0, 0, 0), (.getfield 33, 7, 3), (.aload_n 0, 0, 0), (.getfield 62, 7, 8)] (by decide +kernel) ⟨g_Ap_33, g_Ap_62, trivial⟩ ⟨o1, o2, ?_⟩
        show Ev (d + 1) M_Ap_climb 0 0 35 [(2, v0), (0, v1), (0, v2), (0, v3), zJ] [(2, m3 v0 8), (2, m3 v0 3)] kd m3 (zqI kd q)
        obtain ⟨ov, h⟩ := h
        obtain ⟨q4, hq, h⟩ := h
        refine EvX.callV (c := 0) (mc := 0) (ms := 0) (as := [(2, m3 v0 8)]) (st := []) (by decide +kernel) l_Ap_258 k_Duo_climbUp v_Duo_climbUp a_Duo_climbUp (by decide) (Nat.le_of_ble_eq_true rfl) rfl ov hq (fun r kd1 m6 hr => ?_)
        obtain ⟨x5, rfl, hk, hr⟩ := hr
        subst kd1
        have h := h x5 m6 hr
        show Ev (d + 1) M_Ap_climb 0 0 38 [(2, v0), (0, v1), (0, v2), (0, v3), zJ] [(0, x5)] kd m6 (zqI kd q)
        refine EvX.blk (pc' := 41) [(.istore 4, 0, 0), (.iload_n 3, 0, 0)] (by decide +kernel) trivial ?_
        show Ev (d + 1) M_Ap_climb 0 0 41 [(2, v0), (0, v1), (0, v2), (0, v3), (0, x5)] [(0, v3)] kd m6 (zqI kd q)
        refine EvX.tsw (dflt := 65) (lo := 0) (hi := 2) (offs := #[27, 39, 52]) (len := 27) (n := 3) (df := 106) (tgt := fun k => match k with | 0 => 68 | 1 => 80 | 2 => 93 | _ => 106) (by decide +kernel) (by decide) (by decide) (by decide) (fun hc => ?_) (fun hc => ?_)
        · have h := h.1 hc
          refine EvX.blk (pc' := 108) [(.iload 4, 0, 0)] (by decide +kernel) trivial ?_
          show Ev (d + 1) M_Ap_climb 0 0 108 [(2, v0), (0, v1), (0, v2), (0, v3), (0, x5)] [(0, x5)] kd m6 (zqI kd q)
          exact EvX.ret (r := (0, x5)) (by decide +kernel) rfl ⟨_, rfl, rfl, h⟩
        · have h := h.2
          rcases (show v3 = 0 ∨ v3 = 1 ∨ v3 = 2 by omega) with hk | hk | hk
          · have h := h.1 hk
            have ek : (v3 - 0).toNat = 0 := by omega
            rw [ek]
            show Ev (d + 1) M_Ap_climb 0 0 68 [(2, v0), (0, v1), (0, v2), (0, v3), (0, x5)] [] kd m6 (zqI kd q)
            obtain ⟨o1, o2, h⟩ := h
            refine EvX.blk (pc' := 76) [(.aload_n 0, 0, 0), (.getfield 33, 7, 3), (.aload_n 0, 0, 0), (.getfield 62, 7, 8)] (by decide +kernel) ⟨g_Ap_33, g_Ap_62, trivial⟩ ⟨o1, o2, ?_⟩
            show Ev (d + 1) M_Ap_climb 0 0 76 [(2, v0), (0, v1), (0, v2), (0, v3), (0, x5)] [(2, m6 v0 8), (2, m6 v0 3)] kd m6 (zqI kd q)
            obtain ⟨ov, h⟩ := h
            obtain ⟨q7, hq, h⟩ := h
            refine EvX.callV (c := 0) (mc := 0) (ms := 0) (as := [(2, m6 v0 8)]) (st := []) (by decide +kernel) l_Ap_207 k_Duo_worthBoth v_Duo_worthBoth a_Duo_worthBoth (by decide) (Nat.le_of_ble_eq_true rfl) rfl ov hq (fun r kd1 m9 hr => ?_)
            obtain ⟨x8, rfl, hk, hr⟩ := hr
            subst kd1
            have h := h x8 m9 hr
            show Ev (d + 1) M_Ap_climb 0 0 79 [(2, v0), (0, v1), (0, v2), (0, v3), (0, x5)] [(0, x8)] kd m9 (zqI kd q)
            exact EvX.ret (r := (0, x8)) (by decide +kernel) rfl ⟨_, rfl, rfl, h⟩
          · have h := h.2.1 hk
            have ek : (v3 - 0).toNat = 1 := by omega
            rw [ek]
            show Ev (d + 1) M_Ap_climb 0 0 80 [(2, v0), (0, v1), (0, v2), (0, v3), (0, x5)] [] kd m6 (zqI kd q)
            obtain ⟨o1, o2, h⟩ := h
            refine EvX.blk (pc' := 89) [(.aload_n 0, 0, 0), (.getfield 33, 7, 3), (.aload_n 0, 0, 0), (.getfield 62, 7, 8), (.iconst 0, 0, 0)] (by decide +kernel) ⟨g_Ap_33, g_Ap_62, trivial⟩ ⟨o1, o2, ?_⟩
            show Ev (d + 1) M_Ap_climb 0 0 89 [(2, v0), (0, v1), (0, v2), (0, v3), (0, x5)] [(0, 0), (2, m6 v0 8), (2, m6 v0 3)] kd m6 (zqI kd q)
            obtain ⟨ov, h⟩ := h
            obtain ⟨q10, hq, h⟩ := h
            refine EvX.callV (c := 0) (mc := 0) (ms := 0) (as := [(2, m6 v0 8), (0, 0)]) (st := []) (by decide +kernel) l_Ap_261 k_Duo_rowOf v_Duo_rowOf a_Duo_rowOf (by decide) (Nat.le_of_ble_eq_true rfl) rfl ov hq (fun r kd1 m12 hr => ?_)
            obtain ⟨x11, rfl, hk, hr⟩ := hr
            subst kd1
            have h := h x11 m12 hr
            show Ev (d + 1) M_Ap_climb 0 0 92 [(2, v0), (0, v1), (0, v2), (0, v3), (0, x5)] [(0, x11)] kd m12 (zqI kd q)
            exact EvX.ret (r := (0, x11)) (by decide +kernel) rfl ⟨_, rfl, rfl, h⟩
          · have h := h.2.2 hk
            have ek : (v3 - 0).toNat = 2 := by omega
            rw [ek]
            show Ev (d + 1) M_Ap_climb 0 0 93 [(2, v0), (0, v1), (0, v2), (0, v3), (0, x5)] [] kd m6 (zqI kd q)
            obtain ⟨o1, o2, h⟩ := h
            refine EvX.blk (pc' := 102) [(.aload_n 0, 0, 0), (.getfield 33, 7, 3), (.aload_n 0, 0, 0), (.getfield 62, 7, 8), (.iconst 1, 0, 0)] (by decide +kernel) ⟨g_Ap_33, g_Ap_62, trivial⟩ ⟨o1, o2, ?_⟩
            show Ev (d + 1) M_Ap_climb 0 0 102 [(2, v0), (0, v1), (0, v2), (0, v3), (0, x5)] [(0, 1), (2, m6 v0 8), (2, m6 v0 3)] kd m6 (zqI kd q)
            obtain ⟨ov, h⟩ := h
            obtain ⟨q13, hq, h⟩ := h
            refine EvX.callV (c := 0) (mc := 0) (ms := 0) (as := [(2, m6 v0 8), (0, 1)]) (st := []) (by decide +kernel) l_Ap_261 k_Duo_rowOf v_Duo_rowOf a_Duo_rowOf (by decide) (Nat.le_of_ble_eq_true rfl) rfl ov hq (fun r kd1 m15 hr => ?_)
            obtain ⟨x14, rfl, hk, hr⟩ := hr
            subst kd1
            have h := h x14 m15 hr
            show Ev (d + 1) M_Ap_climb 0 0 105 [(2, v0), (0, v1), (0, v2), (0, v3), (0, x5)] [(0, x14)] kd m15 (zqI kd q)
            exact EvX.ret (r := (0, x14)) (by decide +kernel) rfl ⟨_, rfl, rfl, h⟩
      · have h := h.2 hc
        refine EvX.blk (pc' := 26) [(.iconst (-1), 0, 0)] (by decide +kernel) trivial ?_
        show Ev (d + 1) M_Ap_climb 0 0 26 [(2, v0), (0, v1), (0, v2), (0, v3), zJ] [(0, (-1))] kd m3 (zqI kd q)
        exact EvX.ret (r := (0, (-1))) (by decide +kernel) rfl ⟨_, rfl, rfl, h⟩
theorem S_Ap_climb {d : Nat} {kd : ZK} {m : ZM} {q : Int → ZM → Prop} {v0 v1 v2 v3 : Int} (h : (zobj kd v0 7 ∧ zobj kd v0 7 ∧ (zobj kd (m v0 3) 0 ∧ ∃ q1, CtI d M_Duo_takeBoth [(2, m v0 3), (2, m v0 8), (0, v1), (0, v2)] kd m q1 ∧ ∀ x2 m3, q1 x2 m3 → ((x2 = 0 → q (-1) m3) ∧ (¬ x2 = 0 → ((v3 < 0 → q (-1) m3) ∧ (¬ v3 < 0 → ((v3 ≤ 3 → (zobj kd v0 7 ∧ zobj kd v0 7 ∧ (zobj kd (m3 v0 3) 0 ∧ ∃ q4, CtI d M_Duo_climbUp [(2, m3 v0 3), (2, m3 v0 8)] kd m3 q4 ∧ ∀ x5 m6, q4 x5 m6 → (((v3 < 0 ∨ 2 < v3) → q x5 m6) ∧ (v3 = 0 → (zobj kd v0 7 ∧ zobj kd v0 7 ∧ (zobj kd (m6 v0 3) 0 ∧ ∃ q7, CtI d M_Duo_worthBoth [(2, m6 v0 3), (2, m6 v0 8)] kd m6 q7 ∧ ∀ x8 m9, q7 x8 m9 → q x8 m9))) ∧ (v3 = 1 → (zobj kd v0 7 ∧ zobj kd v0 7 ∧ (zobj kd (m6 v0 3) 0 ∧ ∃ q10, CtI d M_Duo_rowOf [(2, m6 v0 3), (2, m6 v0 8), (0, 0)] kd m6 q10 ∧ ∀ x11 m12, q10 x11 m12 → q x11 m12))) ∧ (v3 = 2 → (zobj kd v0 7 ∧ zobj kd v0 7 ∧ (zobj kd (m6 v0 3) 0 ∧ ∃ q13, CtI d M_Duo_rowOf [(2, m6 v0 3), (2, m6 v0 8), (0, 1)] kd m6 q13 ∧ ∀ x14 m15, q13 x14 m15 → q x14 m15))))))) ∧ (¬ v3 ≤ 3 → q (-1) m3))))))))) : CtI (d + 1) M_Ap_climb [(2, v0), (0, v1), (0, v2), (0, v3)] kd m q :=
  Ct.start k_Ap_climb (Nat.le_of_ble_eq_true rfl) ⟨1, Or.inr (Or.inl ⟨rfl, rfl⟩)⟩ (T_Ap_climb_0 h)
set_option maxRecDepth 20000 in
set_option maxHeartbeats 1000000 in
theorem T_Ap_cut_0 {d : Nat} {kd : ZK} {m : ZM} {q : Int → ZM → Prop} {v0 v1 v2 : Int} (h : (zobj kd v0 7 ∧ (zobj kd (m v0 8) 1 ∧ ∃ q1, CtI d M_Game_hasCell [(2, m v0 8), (0, v1), (0, v2)] kd m q1 ∧ ∀ x2 m3, q1 x2 m3 → ((x2 ≠ 0 → (zobj kd v0 7 ∧ zobj kd v0 7 ∧ (zobj kd (m3 v0 9) 1 ∧ ∃ q4, CtV d M_Game_become [(2, m3 v0 9), (2, m3 v0 8)] kd m3 q4 ∧ ∀ m6, q4 m6 → (zobj kd v0 7 ∧ zobj kd (m6 v0 9) 1 ∧ (∃ q7, CtI d M_Ap_cellOf [(0, 0), (0, v1), (0, v2)] kd m6 q7 ∧ ∀ x8 m9, q7 x8 m9 → (zIn kd (m6 (m6 v0 9) 4) 0 x8 ∧ zobj kd v0 7 ∧ (zobj kd v0 7 ∧ ∃ q10, CtI d M_Ap_mostOf [(2, v0), (2, (zup m9 (m6 (m6 v0 9) 4) x8 0) v0 9)] kd (zup m9 (m6 (m6 v0 9) 4) x8 0) q10 ∧ ∀ x11 m12, q10 x11 m12 → q x11 m12))))))) ∧ (¬ x2 ≠ 0 → q (-1) m3))))) : Ev (d + 1) M_Ap_cut 0 0 0 [(2, v0), (0, v1), (0, v2)] [] kd m (zqI kd q) := by
  obtain ⟨o1, h⟩ := h
  refine EvX.blk (pc' := 6) [(.aload_n 0, 0, 0), (.getfield 62, 7, 8), (.iload_n 1, 0, 0), (.iload_n 2, 0, 0)] (by decide +kernel) ⟨g_Ap_62, trivial⟩ ⟨o1, ?_⟩
  show Ev (d + 1) M_Ap_cut 0 0 6 [(2, v0), (0, v1), (0, v2)] [(0, v2), (0, v1), (2, m v0 8)] kd m (zqI kd q)
  obtain ⟨ov, h⟩ := h
  obtain ⟨q1, hq, h⟩ := h
  refine EvX.callV (c := 1) (mc := 0) (ms := 0) (as := [(0, v1), (0, v2)]) (st := []) (by decide +kernel) l_Ap_93 k_Game_hasCell v_Game_hasCell a_Game_hasCell (by decide) (Nat.le_of_ble_eq_true rfl) rfl ov hq (fun r kd1 m3 hr => ?_)
  obtain ⟨x2, rfl, hk, hr⟩ := hr
  subst kd1
  have h := h x2 m3 hr
  show Ev (d + 1) M_Ap_cut 0 0 9 [(2, v0), (0, v1), (0, v2)] [(0, x2)] kd m3 (zqI kd q)
  refine EvX.if_ne (off := 5) (tgt := 14) (by decide +kernel) (by decide) (fun hc => ?_) (fun hc => ?_)
  · have h := h.1 hc
    obtain ⟨o1, o2, h⟩ := h
    refine EvX.blk (pc' := 22) [(.aload_n 0, 0, 0), (.getfield 66, 7, 9), (.aload_n 0, 0, 0), (.getfield 62, 7, 8)] (by decide +kernel) ⟨g_Ap_66, g_Ap_62, trivial⟩ ⟨o1, o2, ?_⟩
    show Ev (d + 1) M_Ap_cut 0 0 22 [(2, v0), (0, v1), (0, v2)] [(2, m3 v0 8), (2, m3 v0 9)] kd m3 (zqI kd q)
    obtain ⟨ov, h⟩ := h
    obtain ⟨q4, hq, h⟩ := h
    refine EvX.callV (c := 1) (mc := 0) (ms := 0) (as := [(2, m3 v0 8)]) (st := []) (by decide +kernel) l_Ap_181 k_Game_become v_Game_become a_Game_become (by decide) (Nat.le_of_ble_eq_true rfl) rfl ov hq (fun r kd1 m6 hr => ?_)
    obtain ⟨rfl, hk, hr⟩ := hr
    subst kd1
    have h := h m6 hr
    show Ev (d + 1) M_Ap_cut 0 0 25 [(2, v0), (0, v1), (0, v2)] [] kd m6 (zqI kd q)
    obtain ⟨o1, o2, h⟩ := h
    refine EvX.blk (pc' := 35) [(.aload_n 0, 0, 0), (.getfield 66, 7, 9), (.getfield 101, 1, 4), (.iconst 0, 0, 0), (.iload_n 1, 0, 0), (.iload_n 2, 0, 0)] (by decide +kernel) ⟨g_Ap_66, g_Ap_101, trivial⟩ ⟨o1, o2, ?_⟩
    show Ev (d + 1) M_Ap_cut 0 0 35 [(2, v0), (0, v1), (0, v2)] [(0, v2), (0, v1), (0, 0), (2, m6 (m6 v0 9) 4)] kd m6 (zqI kd q)
    obtain ⟨q7, hq, h⟩ := h
    refine EvX.callS (mc := 0) (ms := 0) (as := [(0, 0), (0, v1), (0, v2)]) (st := [(2, m6 (m6 v0 9) 4)]) (by decide +kernel) l_Ap_97 k_Ap_cellOf s_Ap_cellOf a_Ap_cellOf (by decide) (Nat.le_of_ble_eq_true rfl) hq (fun r kd1 m9 hr => ?_)
    obtain ⟨x8, rfl, hk, hr⟩ := hr
    subst kd1
    have h := h x8 m9 hr
    show Ev (d + 1) M_Ap_cut 0 0 38 [(2, v0), (0, v1), (0, v2)] [(0, x8), (2, m6 (m6 v0 9) 4)] kd m9 (zqI kd q)
    obtain ⟨o1, o2, h⟩ := h
    refine EvX.blk (pc' := 45) [(.iconst 0, 0, 0), (.iastore, 0, 0), (.aload_n 0, 0, 0), (.aload_n 0, 0, 0), (.getfield 66, 7, 9)] (by decide +kernel) ⟨g_Ap_66, trivial⟩ ⟨o1, o2, ?_⟩
    show Ev (d + 1) M_Ap_cut 0 0 45 [(2, v0), (0, v1), (0, v2)] [(2, (zup m9 (m6 (m6 v0 9) 4) x8 0) v0 9), (2, v0)] kd (zup m9 (m6 (m6 v0 9) 4) x8 0) (zqI kd q)
    obtain ⟨ov, h⟩ := h
    obtain ⟨q10, hq, h⟩ := h
    refine EvX.callV (c := 7) (mc := 0) (ms := 0) (as := [(2, (zup m9 (m6 (m6 v0 9) 4) x8 0) v0 9)]) (st := []) (by decide +kernel) l_Ap_184 k_Ap_mostOf v_Ap_mostOf a_Ap_mostOf (by decide) (Nat.le_of_ble_eq_true rfl) rfl ov hq (fun r kd1 m12 hr => ?_)
    obtain ⟨x11, rfl, hk, hr⟩ := hr
    subst kd1
    have h := h x11 m12 hr
    show Ev (d + 1) M_Ap_cut 0 0 48 [(2, v0), (0, v1), (0, v2)] [(0, x11)] kd m12 (zqI kd q)
    exact EvX.ret (r := (0, x11)) (by decide +kernel) rfl ⟨_, rfl, rfl, h⟩
  · have h := h.2 hc
    refine EvX.blk (pc' := 13) [(.iconst (-1), 0, 0)] (by decide +kernel) trivial ?_
    show Ev (d + 1) M_Ap_cut 0 0 13 [(2, v0), (0, v1), (0, v2)] [(0, (-1))] kd m3 (zqI kd q)
    exact EvX.ret (r := (0, (-1))) (by decide +kernel) rfl ⟨_, rfl, rfl, h⟩
theorem S_Ap_cut {d : Nat} {kd : ZK} {m : ZM} {q : Int → ZM → Prop} {v0 v1 v2 : Int} (h : (zobj kd v0 7 ∧ (zobj kd (m v0 8) 1 ∧ ∃ q1, CtI d M_Game_hasCell [(2, m v0 8), (0, v1), (0, v2)] kd m q1 ∧ ∀ x2 m3, q1 x2 m3 → ((x2 ≠ 0 → (zobj kd v0 7 ∧ zobj kd v0 7 ∧ (zobj kd (m3 v0 9) 1 ∧ ∃ q4, CtV d M_Game_become [(2, m3 v0 9), (2, m3 v0 8)] kd m3 q4 ∧ ∀ m6, q4 m6 → (zobj kd v0 7 ∧ zobj kd (m6 v0 9) 1 ∧ (∃ q7, CtI d M_Ap_cellOf [(0, 0), (0, v1), (0, v2)] kd m6 q7 ∧ ∀ x8 m9, q7 x8 m9 → (zIn kd (m6 (m6 v0 9) 4) 0 x8 ∧ zobj kd v0 7 ∧ (zobj kd v0 7 ∧ ∃ q10, CtI d M_Ap_mostOf [(2, v0), (2, (zup m9 (m6 (m6 v0 9) 4) x8 0) v0 9)] kd (zup m9 (m6 (m6 v0 9) 4) x8 0) q10 ∧ ∀ x11 m12, q10 x11 m12 → q x11 m12))))))) ∧ (¬ x2 ≠ 0 → q (-1) m3))))) : CtI (d + 1) M_Ap_cut [(2, v0), (0, v1), (0, v2)] kd m q :=
  Ct.start k_Ap_cut (Nat.le_of_ble_eq_true rfl) ⟨1, Or.inr (Or.inl ⟨rfl, rfl⟩)⟩ (T_Ap_cut_0 h)
set_option maxRecDepth 20000 in
set_option maxHeartbeats 1000000 in
theorem T_Ap_parts_0 {d : Nat} {kd : ZK} {m : ZM} {q : Int → ZM → Prop} {v0 v1 : Int} (h : (zobj kd v0 7 ∧ (zobj kd (m v0 8) 1 ∧ ∃ q1, CtI d M_Game_isTold [(2, m v0 8)] kd m q1 ∧ ∀ x2 m3, q1 x2 m3 → ((x2 ≠ 0 → (((v1 < 0 ∨ 2 < v1) → q (-1) m3) ∧ (v1 = 0 → (zobj kd v0 7 ∧ zobj kd v0 7 ∧ (zobj kd (m3 v0 4) 4 ∧ ∃ q4, CtI d M_Shape_partsOf [(2, m3 v0 4), (2, m3 v0 8)] kd m3 q4 ∧ ∀ x5 m6, q4 x5 m6 → q x5 m6))) ∧ (v1 = 1 → (zobj kd v0 7 ∧ zobj kd v0 7 ∧ (zobj kd (m3 v0 4) 4 ∧ ∃ q7, CtI d M_Shape_greatestPartOf [(2, m3 v0 4), (2, m3 v0 8)] kd m3 q7 ∧ ∀ x8 m9, q7 x8 m9 → q x8 m9))) ∧ (v1 = 2 → (zobj kd v0 7 ∧ (zobj kd v0 7 ∧ ∃ q10, CtI d M_Ap_mostOf [(2, v0), (2, m3 v0 8)] kd m3 q10 ∧ ∀ x11 m12, q10 x11 m12 → (zobj kd v0 7 ∧ (zobj kd (m12 v0 8) 1 ∧ ∃ q13, CtI d M_Game_weightTogether [(2, m12 v0 8)] kd m12 q13 ∧ ∀ x14 m15, q13 x14 m15 → ((x11 ≠ x14 → q 0 m15) ∧ (¬ x11 ≠ x14 → q 1 m15))))))))) ∧ (¬ x2 ≠ 0 → q (-1) m3))))) : Ev (d + 1) M_Ap_parts 0 0 0 [(2, v0), (0, v1)] [] kd m (zqI kd q) := by
  obtain ⟨o1, h⟩ := h
  refine EvX.blk (pc' := 4) [(.aload_n 0, 0, 0), (.getfield 62, 7, 8)] (by decide +kernel) ⟨g_Ap_62, trivial⟩ ⟨o1, ?_⟩
  show Ev (d + 1) M_Ap_parts 0 0 4 [(2, v0), (0, v1)] [(2, m v0 8)] kd m (zqI kd q)
  obtain ⟨ov, h⟩ := h
  obtain ⟨q1, hq, h⟩ := h
  refine EvX.callV (c := 1) (mc := 0) (ms := 0) (as := []) (st := []) (by decide +kernel) l_Ap_135 k_Game_isTold v_Game_isTold a_Game_isTold (by decide) (Nat.le_of_ble_eq_true rfl) rfl ov hq (fun r kd1 m3 hr => ?_)
  obtain ⟨x2, rfl, hk, hr⟩ := hr
  subst kd1
  have h := h x2 m3 hr
  show Ev (d + 1) M_Ap_parts 0 0 7 [(2, v0), (0, v1)] [(0, x2)] kd m3 (zqI kd q)
  refine EvX.if_ne (off := 5) (tgt := 12) (by decide +kernel) (by decide) (fun hc => ?_) (fun hc => ?_)
  · have h := h.1 hc
    refine EvX.blk (pc' := 13) [(.iload_n 1, 0, 0)] (by decide +kernel) trivial ?_
    show Ev (d + 1) M_Ap_parts 0 0 13 [(2, v0), (0, v1)] [(0, v1)] kd m3 (zqI kd q)
    refine EvX.tsw (dflt := 75) (lo := 0) (hi := 2) (offs := #[27, 39, 51]) (len := 27) (n := 3) (df := 88) (tgt := fun k => match k with | 0 => 40 | 1 => 52 | 2 => 64 | _ => 88) (by decide +kernel) (by decide) (by decide) (by decide) (fun hc => ?_) (fun hc => ?_)
    · have h := h.1 hc
      refine EvX.blk (pc' := 89) [(.iconst (-1), 0, 0)] (by decide +kernel) trivial ?_
      show Ev (d + 1) M_Ap_parts 0 0 89 [(2, v0), (0, v1)] [(0, (-1))] kd m3 (zqI kd q)
      exact EvX.ret (r := (0, (-1))) (by decide +kernel) rfl ⟨_, rfl, rfl, h⟩
    · have h := h.2
      rcases (show v1 = 0 ∨ v1 = 1 ∨ v1 = 2 by omega) with hk | hk | hk
      · have h := h.1 hk
        have ek : (v1 - 0).toNat = 0 := by omega
        rw [ek]
        show Ev (d + 1) M_Ap_parts 0 0 40 [(2, v0), (0, v1)] [] kd m3 (zqI kd q)
        obtain ⟨o1, o2, h⟩ := h
        refine EvX.blk (pc' := 48) [(.aload_n 0, 0, 0), (.getfield 40, 7, 4), (.aload_n 0, 0, 0), (.getfield 62, 7, 8)] (by decide +kernel) ⟨g_Ap_40, g_Ap_62, trivial⟩ ⟨o1, o2, ?_⟩
        show Ev (d + 1) M_Ap_parts 0 0 48 [(2, v0), (0, v1)] [(2, m3 v0 8), (2, m3 v0 4)] kd m3 (zqI kd q)
        obtain ⟨ov, h⟩ := h
        obtain ⟨q4, hq, h⟩ := h
        refine EvX.callV (c := 4) (mc := 0) (ms := 0) (as := [(2, m3 v0 8)]) (st := []) (by decide +kernel) l_Ap_264 k_Shape_partsOf v_Shape_partsOf a_Shape_partsOf (by decide) (Nat.le_of_ble_eq_true rfl) rfl ov hq (fun r kd1 m6 hr => ?_)
        obtain ⟨x5, rfl, hk, hr⟩ := hr
        subst kd1
        have h := h x5 m6 hr
        show Ev (d + 1) M_Ap_parts 0 0 51 [(2, v0), (0, v1)] [(0, x5)] kd m6 (zqI kd q)
        exact EvX.ret (r := (0, x5)) (by decide +kernel) rfl ⟨_, rfl, rfl, h⟩
      · have h := h.2.1 hk
        have ek : (v1 - 0).toNat = 1 := by omega
        rw [ek]
        show Ev (d + 1) M_Ap_parts 0 0 52 [(2, v0), (0, v1)] [] kd m3 (zqI kd q)
        obtain ⟨o1, o2, h⟩ := h
        refine EvX.blk (pc' := 60) [(.aload_n 0, 0, 0), (.getfield 40, 7, 4), (.aload_n 0, 0, 0), (.getfield 62, 7, 8)] (by decide +kernel) ⟨g_Ap_40, g_Ap_62, trivial⟩ ⟨o1, o2, ?_⟩
        show Ev (d + 1) M_Ap_parts 0 0 60 [(2, v0), (0, v1)] [(2, m3 v0 8), (2, m3 v0 4)] kd m3 (zqI kd q)
        obtain ⟨ov, h⟩ := h
        obtain ⟨q7, hq, h⟩ := h
        refine EvX.callV (c := 4) (mc := 0) (ms := 0) (as := [(2, m3 v0 8)]) (st := []) (by decide +kernel) l_Ap_267 k_Shape_greatestPartOf v_Shape_greatestPartOf a_Shape_greatestPartOf (by decide) (Nat.le_of_ble_eq_true rfl) rfl ov hq (fun r kd1 m9 hr => ?_)
        obtain ⟨x8, rfl, hk, hr⟩ := hr
        subst kd1
        have h := h x8 m9 hr
        show Ev (d + 1) M_Ap_parts 0 0 63 [(2, v0), (0, v1)] [(0, x8)] kd m9 (zqI kd q)
        exact EvX.ret (r := (0, x8)) (by decide +kernel) rfl ⟨_, rfl, rfl, h⟩
      · have h := h.2.2 hk
        have ek : (v1 - 0).toNat = 2 := by omega
        rw [ek]
        show Ev (d + 1) M_Ap_parts 0 0 64 [(2, v0), (0, v1)] [] kd m3 (zqI kd q)
        obtain ⟨o1, h⟩ := h
        refine EvX.blk (pc' := 69) [(.aload_n 0, 0, 0), (.aload_n 0, 0, 0), (.getfield 62, 7, 8)] (by decide +kernel) ⟨g_Ap_62, trivial⟩ ⟨o1, ?_⟩
        show Ev (d + 1) M_Ap_parts 0 0 69 [(2, v0), (0, v1)] [(2, m3 v0 8), (2, v0)] kd m3 (zqI kd q)
        obtain ⟨ov, h⟩ := h
        obtain ⟨q10, hq, h⟩ := h
        refine EvX.callV (c := 7) (mc := 0) (ms := 0) (as := [(2, m3 v0 8)]) (st := []) (by decide +kernel) l_Ap_184 k_Ap_mostOf v_Ap_mostOf a_Ap_mostOf (by decide) (Nat.le_of_ble_eq_true rfl) rfl ov hq (fun r kd1 m12 hr => ?_)
        obtain ⟨x11, rfl, hk, hr⟩ := hr
        subst kd1
        have h := h x11 m12 hr
        show Ev (d + 1) M_Ap_parts 0 0 72 [(2, v0), (0, v1)] [(0, x11)] kd m12 (zqI kd q)
        obtain ⟨o1, h⟩ := h
        refine EvX.blk (pc' := 76) [(.aload_n 0, 0, 0), (.getfield 62, 7, 8)] (by decide +kernel) ⟨g_Ap_62, trivial⟩ ⟨o1, ?_⟩
        show Ev (d + 1) M_Ap_parts 0 0 76 [(2, v0), (0, v1)] [(2, m12 v0 8), (0, x11)] kd m12 (zqI kd q)
        obtain ⟨ov, h⟩ := h
        obtain ⟨q13, hq, h⟩ := h
        refine EvX.callV (c := 1) (mc := 0) (ms := 0) (as := []) (st := [(0, x11)]) (by decide +kernel) l_Ap_187 k_Game_weightTogether v_Game_weightTogether a_Game_weightTogether (by decide) (Nat.le_of_ble_eq_true rfl) rfl ov hq (fun r kd1 m15 hr => ?_)
        obtain ⟨x14, rfl, hk, hr⟩ := hr
        subst kd1
        have h := h x14 m15 hr
        show Ev (d + 1) M_Ap_parts 0 0 79 [(2, v0), (0, v1)] [(0, x14), (0, x11)] kd m15 (zqI kd q)
        refine EvX.icmp_ne (off := 7) (tgt := 86) (by decide +kernel) (by decide) (fun hc => ?_) (fun hc => ?_)
        · have h := h.1 hc
          refine EvX.blk (pc' := 87) [(.iconst 0, 0, 0)] (by decide +kernel) trivial ?_
          show Ev (d + 1) M_Ap_parts 0 0 87 [(2, v0), (0, v1)] [(0, 0)] kd m15 (zqI kd q)
          exact EvX.ret (r := (0, 0)) (by decide +kernel) rfl ⟨_, rfl, rfl, h⟩
        · have h := h.2 hc
          refine EvX.blk (pc' := 83) [(.iconst 1, 0, 0)] (by decide +kernel) trivial ?_
          show Ev (d + 1) M_Ap_parts 0 0 83 [(2, v0), (0, v1)] [(0, 1)] kd m15 (zqI kd q)
          refine EvX.goto (off := 4) (tgt := 87) (by decide +kernel) (by decide) ?_
          exact EvX.ret (r := (0, 1)) (by decide +kernel) rfl ⟨_, rfl, rfl, h⟩
  · have h := h.2 hc
    refine EvX.blk (pc' := 11) [(.iconst (-1), 0, 0)] (by decide +kernel) trivial ?_
    show Ev (d + 1) M_Ap_parts 0 0 11 [(2, v0), (0, v1)] [(0, (-1))] kd m3 (zqI kd q)
    exact EvX.ret (r := (0, (-1))) (by decide +kernel) rfl ⟨_, rfl, rfl, h⟩
theorem S_Ap_parts {d : Nat} {kd : ZK} {m : ZM} {q : Int → ZM → Prop} {v0 v1 : Int} (h : (zobj kd v0 7 ∧ (zobj kd (m v0 8) 1 ∧ ∃ q1, CtI d M_Game_isTold [(2, m v0 8)] kd m q1 ∧ ∀ x2 m3, q1 x2 m3 → ((x2 ≠ 0 → (((v1 < 0 ∨ 2 < v1) → q (-1) m3) ∧ (v1 = 0 → (zobj kd v0 7 ∧ zobj kd v0 7 ∧ (zobj kd (m3 v0 4) 4 ∧ ∃ q4, CtI d M_Shape_partsOf [(2, m3 v0 4), (2, m3 v0 8)] kd m3 q4 ∧ ∀ x5 m6, q4 x5 m6 → q x5 m6))) ∧ (v1 = 1 → (zobj kd v0 7 ∧ zobj kd v0 7 ∧ (zobj kd (m3 v0 4) 4 ∧ ∃ q7, CtI d M_Shape_greatestPartOf [(2, m3 v0 4), (2, m3 v0 8)] kd m3 q7 ∧ ∀ x8 m9, q7 x8 m9 → q x8 m9))) ∧ (v1 = 2 → (zobj kd v0 7 ∧ (zobj kd v0 7 ∧ ∃ q10, CtI d M_Ap_mostOf [(2, v0), (2, m3 v0 8)] kd m3 q10 ∧ ∀ x11 m12, q10 x11 m12 → (zobj kd v0 7 ∧ (zobj kd (m12 v0 8) 1 ∧ ∃ q13, CtI d M_Game_weightTogether [(2, m12 v0 8)] kd m12 q13 ∧ ∀ x14 m15, q13 x14 m15 → ((x11 ≠ x14 → q 0 m15) ∧ (¬ x11 ≠ x14 → q 1 m15))))))))) ∧ (¬ x2 ≠ 0 → q (-1) m3))))) : CtI (d + 1) M_Ap_parts [(2, v0), (0, v1)] kd m q :=
  Ct.start k_Ap_parts (Nat.le_of_ble_eq_true rfl) ⟨1, Or.inr (Or.inl ⟨rfl, rfl⟩)⟩ (T_Ap_parts_0 h)
set_option maxRecDepth 20000 in
set_option maxHeartbeats 1000000 in
theorem T_Ap_sign_0 {d : Nat} {kd : ZK} {m : ZM} {q : Int → ZM → Prop} {v0 v1 v2 : Int} (h : (zobj kd v0 7 ∧ (zobj kd (m v0 8) 1 ∧ ∃ q1, CtI d M_Game_hasCell [(2, m v0 8), (0, v1), (0, v2)] kd m q1 ∧ ∀ x2 m3, q1 x2 m3 → ((x2 = 0 → q (-2) m3) ∧ (¬ x2 = 0 → (zobj kd v0 7 ∧ (zobj kd (m3 v0 8) 1 ∧ ∃ q4, CtI d M_Game_signAt [(2, m3 v0 8), (0, v1), (0, v2)] kd m3 q4 ∧ ∀ x5 m6, q4 x5 m6 → q x5 m6))))))) : Ev (d + 1) M_Ap_sign 0 0 0 [(2, v0), (0, v1), (0, v2)] [] kd m (zqI kd q) := by
  obtain ⟨o1, h⟩ := h
  refine EvX.blk (pc' := 6) [(.aload_n 0, 0, 0), (.getfield 62, 7, 8), (.iload_n 1, 0, 0), (.iload_n 2, 0, 0)] (by decide +kernel) ⟨g_Ap_62, trivial⟩ ⟨o1, ?_⟩
  show Ev (d + 1) M_Ap_sign 0 0 6 [(2, v0), (0, v1), (0, v2)] [(0, v2), (0, v1), (2, m v0 8)] kd m (zqI kd q)
  obtain ⟨ov, h⟩ := h
  obtain ⟨q1, hq, h⟩ := h
  refine EvX.callV (c := 1) (mc := 0) (ms := 0) (as := [(0, v1), (0, v2)]) (st := []) (by decide +kernel) l_Ap_93 k_Game_hasCell v_Game_hasCell a_Game_hasCell (by decide) (Nat.le_of_ble_eq_true rfl) rfl ov hq (fun r kd1 m3 hr => ?_)
  obtain ⟨x2, rfl, hk, hr⟩ := hr
  subst kd1
  have h := h x2 m3 hr
  show Ev (d + 1) M_Ap_sign 0 0 9 [(2, v0), (0, v1), (0, v2)] [(0, x2)] kd m3 (zqI kd q)
  refine EvX.if_eq (off := 15) (tgt := 24) (by decide +kernel) (by decide) (fun hc => ?_) (fun hc => ?_)
  · have h := h.1 hc
    refine EvX.blk (pc' := 26) [(.bipush (-2), 0, 0)] (by decide +kernel) trivial ?_
    show Ev (d + 1) M_Ap_sign 0 0 26 [(2, v0), (0, v1), (0, v2)] [(0, (-2))] kd m3 (zqI kd q)
    exact EvX.ret (r := (0, (-2))) (by decide +kernel) rfl ⟨_, rfl, rfl, h⟩
  · have h := h.2 hc
    obtain ⟨o1, h⟩ := h
    refine EvX.blk (pc' := 18) [(.aload_n 0, 0, 0), (.getfield 62, 7, 8), (.iload_n 1, 0, 0), (.iload_n 2, 0, 0)] (by decide +kernel) ⟨g_Ap_62, trivial⟩ ⟨o1, ?_⟩
    show Ev (d + 1) M_Ap_sign 0 0 18 [(2, v0), (0, v1), (0, v2)] [(0, v2), (0, v1), (2, m3 v0 8)] kd m3 (zqI kd q)
    obtain ⟨ov, h⟩ := h
    obtain ⟨q4, hq, h⟩ := h
    refine EvX.callV (c := 1) (mc := 0) (ms := 0) (as := [(0, v1), (0, v2)]) (st := []) (by decide +kernel) l_Ap_120 k_Game_signAt v_Game_signAt a_Game_signAt (by decide) (Nat.le_of_ble_eq_true rfl) rfl ov hq (fun r kd1 m6 hr => ?_)
    obtain ⟨x5, rfl, hk, hr⟩ := hr
    subst kd1
    have h := h x5 m6 hr
    show Ev (d + 1) M_Ap_sign 0 0 21 [(2, v0), (0, v1), (0, v2)] [(0, x5)] kd m6 (zqI kd q)
    refine EvX.goto (off := 5) (tgt := 26) (by decide +kernel) (by decide) ?_
    exact EvX.ret (r := (0, x5)) (by decide +kernel) rfl ⟨_, rfl, rfl, h⟩
theorem S_Ap_sign {d : Nat} {kd : ZK} {m : ZM} {q : Int → ZM → Prop} {v0 v1 v2 : Int} (h : (zobj kd v0 7 ∧ (zobj kd (m v0 8) 1 ∧ ∃ q1, CtI d M_Game_hasCell [(2, m v0 8), (0, v1), (0, v2)] kd m q1 ∧ ∀ x2 m3, q1 x2 m3 → ((x2 = 0 → q (-2) m3) ∧ (¬ x2 = 0 → (zobj kd v0 7 ∧ (zobj kd (m3 v0 8) 1 ∧ ∃ q4, CtI d M_Game_signAt [(2, m3 v0 8), (0, v1), (0, v2)] kd m3 q4 ∧ ∀ x5 m6, q4 x5 m6 → q x5 m6))))))) : CtI (d + 1) M_Ap_sign [(2, v0), (0, v1), (0, v2)] kd m q :=
  Ct.start k_Ap_sign (Nat.le_of_ble_eq_true rfl) ⟨1, Or.inr (Or.inl ⟨rfl, rfl⟩)⟩ (T_Ap_sign_0 h)
set_option maxRecDepth 20000 in
set_option maxHeartbeats 1000000 in
theorem T_Ap_bias_0 {d : Nat} {kd : ZK} {m : ZM} {q : Int → ZM → Prop} {v0 v1 : Int} (h : (zobj kd v0 7 ∧ (zobj kd (m v0 8) 1 ∧ ∃ q1, CtI d M_Game_isTold [(2, m v0 8)] kd m q1 ∧ ∀ x2 m3, q1 x2 m3 → ((x2 = 0 → q (-1) m3) ∧ (¬ x2 = 0 → ((v1 < 0 → q (-1) m3) ∧ (¬ v1 < 0 → ((v1 ≤ 2 → (zobj kd v0 7 ∧ (zobj kd (m3 v0 8) 1 ∧ ∃ q4, CtI d M_Game_isParityGame [(2, m3 v0 8)] kd m3 q4 ∧ ∀ x5 m6, q4 x5 m6 → ((x5 ≠ 0 → ((v1 ≠ 0 → (zobj kd v0 7 ∧ ((v1 ≠ 2 → (zobj kd (m6 v0 8) 1 ∧ ∃ q7, CtI d M_Game_squares [(2, m6 v0 8), (0, 0)] kd m6 q7 ∧ ∀ x8 m9, q7 x8 m9 → q x8 m9)) ∧ (¬ v1 ≠ 2 → (zobj kd (m6 v0 8) 1 ∧ ∃ q10, CtI d M_Game_squares [(2, m6 v0 8), (0, 1)] kd m6 q10 ∧ ∀ x11 m12, q10 x11 m12 → q x11 m12))))) ∧ (¬ v1 ≠ 0 → (zobj kd v0 7 ∧ ∃ q13, CtI d M_Ap_mostBias [(2, v0)] kd m6 q13 ∧ ∀ x14 m15, q13 x14 m15 → q x14 m15)))) ∧ (¬ x5 ≠ 0 → q (-2000) m6))))) ∧ (¬ v1 ≤ 2 → q (-1) m3))))))))) : Ev (d + 1) M_Ap_bias 0 0 0 [(2, v0), (0, v1)] [] kd m (zqI kd q) := by
  obtain ⟨o1, h⟩ := h
  refine EvX.blk (pc' := 4) [(.aload_n 0, 0, 0), (.getfield 62, 7, 8)] (by decide +kernel) ⟨g_Ap_62, trivial⟩ ⟨o1, ?_⟩
  show Ev (d + 1) M_Ap_bias 0 0 4 [(2, v0), (0, v1)] [(2, m v0 8)] kd m (zqI kd q)
  obtain ⟨ov, h⟩ := h
  obtain ⟨q1, hq, h⟩ := h
  refine EvX.callV (c := 1) (mc := 0) (ms := 0) (as := []) (st := []) (by decide +kernel) l_Ap_135 k_Game_isTold v_Game_isTold a_Game_isTold (by decide) (Nat.le_of_ble_eq_true rfl) rfl ov hq (fun r kd1 m3 hr => ?_)
  obtain ⟨x2, rfl, hk, hr⟩ := hr
  subst kd1
  have h := h x2 m3 hr
  show Ev (d + 1) M_Ap_bias 0 0 7 [(2, v0), (0, v1)] [(0, x2)] kd m3 (zqI kd q)
  refine EvX.if_eq (off := 12) (tgt := 19) (by decide +kernel) (by decide) (fun hc => ?_) (fun hc => ?_)
  · have h := h.1 hc
    refine EvX.blk (pc' := 20) [(.iconst (-1), 0, 0)] (by decide +kernel) trivial ?_
    show Ev (d + 1) M_Ap_bias 0 0 20 [(2, v0), (0, v1)] [(0, (-1))] kd m3 (zqI kd q)
    exact EvX.ret (r := (0, (-1))) (by decide +kernel) rfl ⟨_, rfl, rfl, h⟩
  · have h := h.2 hc
    refine EvX.blk (pc' := 11) [(.iload_n 1, 0, 0)] (by decide +kernel) trivial ?_
    show Ev (d + 1) M_Ap_bias 0 0 11 [(2, v0), (0, v1)] [(0, v1)] kd m3 (zqI kd q)
    refine EvX.if_lt (off := 8) (tgt := 19) (by decide +kernel) (by decide) (fun hc => ?_) (fun hc => ?_)
    · have h := h.1 hc
      refine EvX.blk (pc' := 20) [(.iconst (-1), 0, 0)] (by decide +kernel) trivial ?_
      show Ev (d + 1) M_Ap_bias 0 0 20 [(2, v0), (0, v1)] [(0, (-1))] kd m3 (zqI kd q)
      exact EvX.ret (r := (0, (-1))) (by decide +kernel) rfl ⟨_, rfl, rfl, h⟩
    · have h := h.2 hc
      refine EvX.blk (pc' := 16) [(.iload_n 1, 0, 0), (.iconst 2, 0, 0)] (by decide +kernel) trivial ?_
      show Ev (d + 1) M_Ap_bias 0 0 16 [(2, v0), (0, v1)] [(0, 2), (0, v1)] kd m3 (zqI kd q)
      refine EvX.icmp_le (off := 5) (tgt := 21) (by decide +kernel) (by decide) (fun hc => ?_) (fun hc => ?_)
      · have h := h.1 hc
        obtain ⟨o1, h⟩ := h
        refine EvX.blk (pc' := 25) [(.aload_n 0, 0, 0), (.getfield 62, 7, 8)] (by decide +kernel) ⟨g_Ap_62, trivial⟩ ⟨o1, ?_⟩
        show Ev (d + 1) M_Ap_bias 0 0 25 [(2, v0), (0, v1)] [(2, m3 v0 8)] kd m3 (zqI kd q)
        obtain ⟨ov, h⟩ := h
        obtain ⟨q4, hq, h⟩ := h
        refine EvX.callV (c := 1) (mc := 0) (ms := 0) (as := []) (st := []) (by decide +kernel) l_Ap_270 k_Game_isParityGame v_Game_isParityGame a_Game_isParityGame (by decide) (Nat.le_of_ble_eq_true rfl) rfl ov hq (fun r kd1 m6 hr => ?_)
        obtain ⟨x5, rfl, hk, hr⟩ := hr
        subst kd1
        have h := h x5 m6 hr
        show Ev (d + 1) M_Ap_bias 0 0 28 [(2, v0), (0, v1)] [(0, x5)] kd m6 (zqI kd q)
        refine EvX.if_ne (off := 7) (tgt := 35) (by decide +kernel) (by decide) (fun hc => ?_) (fun hc => ?_)
        · have h := h.1 hc
          refine EvX.blk (pc' := 36) [(.iload_n 1, 0, 0)] (by decide +kernel) trivial ?_
          show Ev (d + 1) M_Ap_bias 0 0 36 [(2, v0), (0, v1)] [(0, v1)] kd m6 (zqI kd q)
          refine EvX.if_ne (off := 8) (tgt := 44) (by decide +kernel) (by decide) (fun hc => ?_) (fun hc => ?_)
          · have h := h.1 hc
            obtain ⟨o1, h⟩ := h
            refine EvX.blk (pc' := 50) [(.aload_n 0, 0, 0), (.getfield 62, 7, 8), (.iload_n 1, 0, 0), (.iconst 2, 0, 0)] (by decide +kernel) ⟨g_Ap_62, trivial⟩ ⟨o1, ?_⟩
            show Ev (d + 1) M_Ap_bias 0 0 50 [(2, v0), (0, v1)] [(0, 2), (0, v1), (2, m6 v0 8)] kd m6 (zqI kd q)
            refine EvX.icmp_ne (off := 7) (tgt := 57) (by decide +kernel) (by decide) (fun hc => ?_) (fun hc => ?_)
            · have h := h.1 hc
              refine EvX.blk (pc' := 58) [(.iconst 0, 0, 0)] (by decide +kernel) trivial ?_
              show Ev (d + 1) M_Ap_bias 0 0 58 [(2, v0), (0, v1)] [(0, 0), (2, m6 v0 8)] kd m6 (zqI kd q)
              obtain ⟨ov, h⟩ := h
              obtain ⟨q7, hq, h⟩ := h
              refine EvX.callV (c := 1) (mc := 0) (ms := 0) (as := [(0, 0)]) (st := []) (by decide +kernel) l_Ap_276 k_Game_squares v_Game_squares a_Game_squares (by decide) (Nat.le_of_ble_eq_true rfl) rfl ov hq (fun r kd1 m9 hr => ?_)
              obtain ⟨x8, rfl, hk, hr⟩ := hr
              subst kd1
              have h := h x8 m9 hr
              show Ev (d + 1) M_Ap_bias 0 0 61 [(2, v0), (0, v1)] [(0, x8)] kd m9 (zqI kd q)
              exact EvX.ret (r := (0, x8)) (by decide +kernel) rfl ⟨_, rfl, rfl, h⟩
            · have h := h.2 hc
              refine EvX.blk (pc' := 54) [(.iconst 1, 0, 0)] (by decide +kernel) trivial ?_
              show Ev (d + 1) M_Ap_bias 0 0 54 [(2, v0), (0, v1)] [(0, 1), (2, m6 v0 8)] kd m6 (zqI kd q)
              refine EvX.goto (off := 4) (tgt := 58) (by decide +kernel) (by decide) ?_
              obtain ⟨ov, h⟩ := h
              obtain ⟨q10, hq, h⟩ := h
              refine EvX.callV (c := 1) (mc := 0) (ms := 0) (as := [(0, 1)]) (st := []) (by decide +kernel) l_Ap_276 k_Game_squares v_Game_squares a_Game_squares (by decide) (Nat.le_of_ble_eq_true rfl) rfl ov hq (fun r kd1 m12 hr => ?_)
              obtain ⟨x11, rfl, hk, hr⟩ := hr
              subst kd1
              have h := h x11 m12 hr
              show Ev (d + 1) M_Ap_bias 0 0 61 [(2, v0), (0, v1)] [(0, x11)] kd m12 (zqI kd q)
              exact EvX.ret (r := (0, x11)) (by decide +kernel) rfl ⟨_, rfl, rfl, h⟩
          · have h := h.2 hc
            refine EvX.blk (pc' := 40) [(.aload_n 0, 0, 0)] (by decide +kernel) trivial ?_
            show Ev (d + 1) M_Ap_bias 0 0 40 [(2, v0), (0, v1)] [(2, v0)] kd m6 (zqI kd q)
            obtain ⟨ov, h⟩ := h
            obtain ⟨q13, hq, h⟩ := h
            refine EvX.callV (c := 7) (mc := 0) (ms := 0) (as := []) (st := []) (by decide +kernel) l_Ap_273 k_Ap_mostBias v_Ap_mostBias a_Ap_mostBias (by decide) (Nat.le_of_ble_eq_true rfl) rfl ov hq (fun r kd1 m15 hr => ?_)
            obtain ⟨x14, rfl, hk, hr⟩ := hr
            subst kd1
            have h := h x14 m15 hr
            show Ev (d + 1) M_Ap_bias 0 0 43 [(2, v0), (0, v1)] [(0, x14)] kd m15 (zqI kd q)
            exact EvX.ret (r := (0, x14)) (by decide +kernel) rfl ⟨_, rfl, rfl, h⟩
        · have h := h.2 hc
          refine EvX.blk (pc' := 34) [(.sipush (-2000), 0, 0)] (by decide +kernel) trivial ?_
          show Ev (d + 1) M_Ap_bias 0 0 34 [(2, v0), (0, v1)] [(0, (-2000))] kd m6 (zqI kd q)
          exact EvX.ret (r := (0, (-2000))) (by decide +kernel) rfl ⟨_, rfl, rfl, h⟩
      · have h := h.2 hc
        refine EvX.blk (pc' := 20) [(.iconst (-1), 0, 0)] (by decide +kernel) trivial ?_
        show Ev (d + 1) M_Ap_bias 0 0 20 [(2, v0), (0, v1)] [(0, (-1))] kd m3 (zqI kd q)
        exact EvX.ret (r := (0, (-1))) (by decide +kernel) rfl ⟨_, rfl, rfl, h⟩
theorem S_Ap_bias {d : Nat} {kd : ZK} {m : ZM} {q : Int → ZM → Prop} {v0 v1 : Int} (h : (zobj kd v0 7 ∧ (zobj kd (m v0 8) 1 ∧ ∃ q1, CtI d M_Game_isTold [(2, m v0 8)] kd m q1 ∧ ∀ x2 m3, q1 x2 m3 → ((x2 = 0 → q (-1) m3) ∧ (¬ x2 = 0 → ((v1 < 0 → q (-1) m3) ∧ (¬ v1 < 0 → ((v1 ≤ 2 → (zobj kd v0 7 ∧ (zobj kd (m3 v0 8) 1 ∧ ∃ q4, CtI d M_Game_isParityGame [(2, m3 v0 8)] kd m3 q4 ∧ ∀ x5 m6, q4 x5 m6 → ((x5 ≠ 0 → ((v1 ≠ 0 → (zobj kd v0 7 ∧ ((v1 ≠ 2 → (zobj kd (m6 v0 8) 1 ∧ ∃ q7, CtI d M_Game_squares [(2, m6 v0 8), (0, 0)] kd m6 q7 ∧ ∀ x8 m9, q7 x8 m9 → q x8 m9)) ∧ (¬ v1 ≠ 2 → (zobj kd (m6 v0 8) 1 ∧ ∃ q10, CtI d M_Game_squares [(2, m6 v0 8), (0, 1)] kd m6 q10 ∧ ∀ x11 m12, q10 x11 m12 → q x11 m12))))) ∧ (¬ v1 ≠ 0 → (zobj kd v0 7 ∧ ∃ q13, CtI d M_Ap_mostBias [(2, v0)] kd m6 q13 ∧ ∀ x14 m15, q13 x14 m15 → q x14 m15)))) ∧ (¬ x5 ≠ 0 → q (-2000) m6))))) ∧ (¬ v1 ≤ 2 → q (-1) m3))))))))) : CtI (d + 1) M_Ap_bias [(2, v0), (0, v1)] kd m q :=
  Ct.start k_Ap_bias (Nat.le_of_ble_eq_true rfl) ⟨1, Or.inr (Or.inl ⟨rfl, rfl⟩)⟩ (T_Ap_bias_0 h)
set_option maxRecDepth 20000 in
set_option maxHeartbeats 1000000 in
theorem T_Ap_twice_0 {d : Nat} {kd : ZK} {m : ZM} {q : Int → ZM → Prop} {v0 v1 : Int} (h : (zobj kd v0 7 ∧ (zobj kd (m v0 8) 1 ∧ ∃ q1, CtI d M_Game_isTold [(2, m v0 8)] kd m q1 ∧ ∀ x2 m3, q1 x2 m3 → ((x2 = 0 → q (-1) m3) ∧ (¬ x2 = 0 → ((v1 < 0 → q (-1) m3) ∧ (¬ v1 < 0 → ((v1 ≤ 1 → (zobj kd v0 7 ∧ ∃ q4, CtI d M_Ap_rowsTwice [(2, v0)] kd m3 q4 ∧ ∀ x5 m6, q4 x5 m6 → ((x5 ≤ 70000 → (zobj kd v0 7 ∧ (zobj kd v0 7 ∧ ∃ q7, CtI d M_Ap_mostOf [(2, v0), (2, m6 v0 8)] kd m6 q7 ∧ ∀ x8 m9, q7 x8 m9 → (zobj kd v0 7 ∧ (zobj kd (m9 v0 8) 1 ∧ ∃ q10, CtI d M_Game_weightTogether [(2, m9 v0 8)] kd m9 q10 ∧ ∀ x11 m12, q10 x11 m12 → ((v1 ≠ 0 → (Ev (d + 1) M_Ap_twice 0 0 75 [(2, v0), (0, v1), zJ, zJ, zJ, zJ] [(0, iw ((iw (x11 * x11)) - (iw ((iw (x11 - x8)) * (iw (x11 - x8))))))] kd m12 (zqI kd q))) ∧ (¬ v1 ≠ 0 → (Ev (d + 1) M_Ap_twice 0 0 75 [(2, v0), (0, v1), zJ, zJ, zJ, zJ] [(0, iw (x8 * x8))] kd m12 (zqI kd q))))))))) ∧ (¬ x5 ≤ 70000 → q (-2) m6)))) ∧ (¬ v1 ≤ 1 → q (-1) m3))))))))) : Ev (d + 1) M_Ap_twice 0 0 0 [(2, v0), (0, v1), zJ, zJ, zJ, zJ] [] kd m (zqI kd q) := by
  obtain ⟨o1, h⟩ := h
  refine EvX.blk (pc' := 4) [(.aload_n 0, 0, 0), (.getfield 62, 7, 8)] (by decide +kernel) ⟨g_Ap_62, trivial⟩ ⟨o1, ?_⟩
  show Ev (d + 1) M_Ap_twice 0 0 4 [(2, v0), (0, v1), zJ, zJ, zJ, zJ] [(2, m v0 8)] kd m (zqI kd q)
  obtain ⟨ov, h⟩ := h
  obtain ⟨q1, hq, h⟩ := h
  refine EvX.callV (c := 1) (mc := 0) (ms := 0) (as := []) (st := []) (by decide +kernel) l_Ap_135 k_Game_isTold v_Game_isTold a_Game_isTold (by decide) (Nat.le_of_ble_eq_true rfl) rfl ov hq (fun r kd1 m3 hr => ?_)
  obtain ⟨x2, rfl, hk, hr⟩ := hr
  subst kd1
  have h := h x2 m3 hr
  show Ev (d + 1) M_Ap_twice 0 0 7 [(2, v0), (0, v1), zJ, zJ, zJ, zJ] [(0, x2)] kd m3 (zqI kd q)
  refine EvX.if_eq (off := 12) (tgt := 19) (by decide +kernel) (by decide) (fun hc => ?_) (fun hc => ?_)
  · have h := h.1 hc
    refine EvX.blk (pc' := 20) [(.iconst (-1), 0, 0)] (by decide +kernel) trivial ?_
    show Ev (d + 1) M_Ap_twice 0 0 20 [(2, v0), (0, v1), zJ, zJ, zJ, zJ] [(0, (-1))] kd m3 (zqI kd q)
    exact EvX.ret (r := (0, (-1))) (by decide +kernel) rfl ⟨_, rfl, rfl, h⟩
  · have h := h.2 hc
    refine EvX.blk (pc' := 11) [(.iload_n 1, 0, 0)] (by decide +kernel) trivial ?_
    show Ev (d + 1) M_Ap_twice 0 0 11 [(2, v0), (0, v1), zJ, zJ, zJ, zJ] [(0, v1)] kd m3 (zqI kd q)
    refine EvX.if_lt (off := 8) (tgt := 19) (by decide +kernel) (by decide) (fun hc => ?_) (fun hc => ?_)
    · have h := h.1 hc
      refine EvX.blk (pc' := 20) [(.iconst (-1), 0, 0)] (by decide +kernel) trivial ?_
      show Ev (d + 1) M_Ap_twice 0 0 20 [(2, v0), (0, v1), zJ, zJ, zJ, zJ] [(0, (-1))] kd m3 (zqI kd q)
      exact EvX.ret (r := (0, (-1))) (by decide +kernel) rfl ⟨_, rfl, rfl, h⟩
    · have h := h.2 hc
      refine EvX.blk (pc' := 16) [(.iload_n 1, 0, 0), (.iconst 1, 0, 0)] (by decide +kernel) trivial ?_
      show Ev (d + 1) M_Ap_twice 0 0 16 [(2, v0), (0, v1), zJ, zJ, zJ, zJ] [(0, 1), (0, v1)] kd m3 (zqI kd q)
      refine EvX.icmp_le (off := 5) (tgt := 21) (by decide +kernel) (by decide) (fun hc => ?_) (fun hc => ?_)
      · have h := h.1 hc
        refine EvX.blk (pc' := 22) [(.aload_n 0, 0, 0)] (by decide +kernel) trivial ?_
        show Ev (d + 1) M_Ap_twice 0 0 22 [(2, v0), (0, v1), zJ, zJ, zJ, zJ] [(2, v0)] kd m3 (zqI kd q)
        obtain ⟨ov, h⟩ := h
        obtain ⟨q4, hq, h⟩ := h
        refine EvX.callV (c := 7) (mc := 0) (ms := 0) (as := []) (st := []) (by decide +kernel) l_Ap_280 k_Ap_rowsTwice v_Ap_rowsTwice a_Ap_rowsTwice (by decide) (Nat.le_of_ble_eq_true rfl) rfl ov hq (fun r kd1 m6 hr => ?_)
        obtain ⟨x5, rfl, hk, hr⟩ := hr
        subst kd1
        have h := h x5 m6 hr
        show Ev (d + 1) M_Ap_twice 0 0 25 [(2, v0), (0, v1), zJ, zJ, zJ, zJ] [(0, x5)] kd m6 (zqI kd q)
        refine EvX.blk (pc' := 28) [(.ldc_w 283, 0, 70000)] (by decide +kernel) ⟨z_Ap_283, trivial⟩ ?_
        show Ev (d + 1) M_Ap_twice 0 0 28 [(2, v0), (0, v1), zJ, zJ, zJ, zJ] [(0, 70000), (0, x5)] kd m6 (zqI kd q)
        refine EvX.icmp_le (off := 6) (tgt := 34) (by decide +kernel) (by decide) (fun hc => ?_) (fun hc => ?_)
        · have h := h.1 hc
          obtain ⟨o1, h⟩ := h
          refine EvX.blk (pc' := 39) [(.aload_n 0, 0, 0), (.aload_n 0, 0, 0), (.getfield 62, 7, 8)] (by decide +kernel) ⟨g_Ap_62, trivial⟩ ⟨o1, ?_⟩
          show Ev (d + 1) M_Ap_twice 0 0 39 [(2, v0), (0, v1), zJ, zJ, zJ, zJ] [(2, m6 v0 8), (2, v0)] kd m6 (zqI kd q)
          obtain ⟨ov, h⟩ := h
          obtain ⟨q7, hq, h⟩ := h
          refine EvX.callV (c := 7) (mc := 0) (ms := 0) (as := [(2, m6 v0 8)]) (st := []) (by decide +kernel) l_Ap_184 k_Ap_mostOf v_Ap_mostOf a_Ap_mostOf (by decide) (Nat.le_of_ble_eq_true rfl) rfl ov hq (fun r kd1 m9 hr => ?_)
          obtain ⟨x8, rfl, hk, hr⟩ := hr
          subst kd1
          have h := h x8 m9 hr
          show Ev (d + 1) M_Ap_twice 0 0 42 [(2, v0), (0, v1), zJ, zJ, zJ, zJ] [(0, x8)] kd m9 (zqI kd q)
          obtain ⟨o1, h⟩ := h
          refine EvX.blk (pc' := 47) [(.istore_n 2, 0, 0), (.aload_n 0, 0, 0), (.getfield 62, 7, 8)] (by decide +kernel) ⟨g_Ap_62, trivial⟩ ⟨o1, ?_⟩
          show Ev (d + 1) M_Ap_twice 0 0 47 [(2, v0), (0, v1), (0, x8), zJ, zJ, zJ] [(2, m9 v0 8)] kd m9 (zqI kd q)
          obtain ⟨ov, h⟩ := h
          obtain ⟨q10, hq, h⟩ := h
          refine EvX.callV (c := 1) (mc := 0) (ms := 0) (as := []) (st := []) (by decide +kernel) l_Ap_187 k_Game_weightTogether v_Game_weightTogether a_Game_weightTogether (by decide) (Nat.le_of_ble_eq_true rfl) rfl ov hq (fun r kd1 m12 hr => ?_)
          obtain ⟨x11, rfl, hk, hr⟩ := hr
          subst kd1
          have h := h x11 m12 hr
          show Ev (d + 1) M_Ap_twice 0 0 50 [(2, v0), (0, v1), (0, x8), zJ, zJ, zJ] [(0, x11)] kd m12 (zqI kd q)
          refine EvX.blk (pc' := 57) [(.istore_n 3, 0, 0), (.iload_n 3, 0, 0), (.iload_n 2, 0, 0), (.isub, 0, 0), (.istore 4, 0, 0), (.iload_n 1, 0, 0)] (by decide +kernel) trivial ?_
          show Ev (d + 1) M_Ap_twice 0 0 57 [(2, v0), (0, v1), (0, x8), (0, x11), (0, iw (x11 - x8)), zJ] [(0, v1)] kd m12 (zqI kd q)
          refine EvX.if_ne (off := 9) (tgt := 66) (by decide +kernel) (by decide) (fun hc => ?_) (fun hc => ?_)
          · have h := h.1 hc
            refine EvX.blk (pc' := 75) [(.iload_n 3, 0, 0), (.iload_n 3, 0, 0), (.imul, 0, 0), (.iload 4, 0, 0), (.iload 4, 0, 0), (.imul, 0, 0), (.isub, 0, 0)] (by decide +kernel) trivial ?_
            show Ev (d + 1) M_Ap_twice 0 0 75 [(2, v0), (0, v1), (0, x8), (0, x11), (0, iw (x11 - x8)), zJ] [(0, iw ((iw (x11 * x11)) - (iw ((iw (x11 - x8)) * (iw (x11 - x8))))))] kd m12 (zqI kd q)
            exact EvX.weak (ls2 := [(2, v0), (0, v1), zJ, zJ, zJ, zJ]) (zwk_of ⟨Or.inr rfl, Or.inr rfl, Or.inl rfl, Or.inl rfl, Or.inl rfl, Or.inl rfl, trivial⟩) h
          · have h := h.2 hc
            refine EvX.blk (pc' := 63) [(.iload_n 2, 0, 0), (.iload_n 2, 0, 0), (.imul, 0, 0)] (by decide +kernel) trivial ?_
            show Ev (d + 1) M_Ap_twice 0 0 63 [(2, v0), (0, v1), (0, x8), (0, x11), (0, iw (x11 - x8)), zJ] [(0, iw (x8 * x8))] kd m12 (zqI kd q)
            refine EvX.goto (off := 12) (tgt := 75) (by decide +kernel) (by decide) ?_
            exact EvX.weak (ls2 := [(2, v0), (0, v1), zJ, zJ, zJ, zJ]) (zwk_of ⟨Or.inr rfl, Or.inr rfl, Or.inl rfl, Or.inl rfl, Or.inl rfl, Or.inl rfl, trivial⟩) h
        · have h := h.2 hc
          refine EvX.blk (pc' := 33) [(.bipush (-2), 0, 0)] (by decide +kernel) trivial ?_
          show Ev (d + 1) M_Ap_twice 0 0 33 [(2, v0), (0, v1), zJ, zJ, zJ, zJ] [(0, (-2))] kd m6 (zqI kd q)
          exact EvX.ret (r := (0, (-2))) (by decide +kernel) rfl ⟨_, rfl, rfl, h⟩
      · have h := h.2 hc
        refine EvX.blk (pc' := 20) [(.iconst (-1), 0, 0)] (by decide +kernel) trivial ?_
        show Ev (d + 1) M_Ap_twice 0 0 20 [(2, v0), (0, v1), zJ, zJ, zJ, zJ] [(0, (-1))] kd m3 (zqI kd q)
        exact EvX.ret (r := (0, (-1))) (by decide +kernel) rfl ⟨_, rfl, rfl, h⟩
theorem S_Ap_twice {d : Nat} {kd : ZK} {m : ZM} {q : Int → ZM → Prop} {v0 v1 : Int} (h : (zobj kd v0 7 ∧ (zobj kd (m v0 8) 1 ∧ ∃ q1, CtI d M_Game_isTold [(2, m v0 8)] kd m q1 ∧ ∀ x2 m3, q1 x2 m3 → ((x2 = 0 → q (-1) m3) ∧ (¬ x2 = 0 → ((v1 < 0 → q (-1) m3) ∧ (¬ v1 < 0 → ((v1 ≤ 1 → (zobj kd v0 7 ∧ ∃ q4, CtI d M_Ap_rowsTwice [(2, v0)] kd m3 q4 ∧ ∀ x5 m6, q4 x5 m6 → ((x5 ≤ 70000 → (zobj kd v0 7 ∧ (zobj kd v0 7 ∧ ∃ q7, CtI d M_Ap_mostOf [(2, v0), (2, m6 v0 8)] kd m6 q7 ∧ ∀ x8 m9, q7 x8 m9 → (zobj kd v0 7 ∧ (zobj kd (m9 v0 8) 1 ∧ ∃ q10, CtI d M_Game_weightTogether [(2, m9 v0 8)] kd m9 q10 ∧ ∀ x11 m12, q10 x11 m12 → ((v1 ≠ 0 → (Ev (d + 1) M_Ap_twice 0 0 75 [(2, v0), (0, v1), zJ, zJ, zJ, zJ] [(0, iw ((iw (x11 * x11)) - (iw ((iw (x11 - x8)) * (iw (x11 - x8))))))] kd m12 (zqI kd q))) ∧ (¬ v1 ≠ 0 → (Ev (d + 1) M_Ap_twice 0 0 75 [(2, v0), (0, v1), zJ, zJ, zJ, zJ] [(0, iw (x8 * x8))] kd m12 (zqI kd q))))))))) ∧ (¬ x5 ≤ 70000 → q (-2) m6)))) ∧ (¬ v1 ≤ 1 → q (-1) m3))))))))) : CtI (d + 1) M_Ap_twice [(2, v0), (0, v1)] kd m q :=
  Ct.start k_Ap_twice (Nat.le_of_ble_eq_true rfl) ⟨1, Or.inr (Or.inl ⟨rfl, rfl⟩)⟩ (T_Ap_twice_0 h)
set_option maxRecDepth 20000 in
set_option maxHeartbeats 1000000 in
theorem T_Ap_twice_75 {d : Nat} {kd : ZK} {m : ZM} {q : Int → ZM → Prop} {v0 v1 s0 : Int} (h : (zobj kd v0 7 ∧ zobj kd v0 7 ∧ ((v1 ≠ 1 → (Ev (d + 1) M_Ap_twice 0 0 95 [(2, v0), zJ, zJ, zJ, zJ, (0, s0)] [(0, 0), (2, m v0 8), (2, m v0 2)] kd m (zqI kd q))) ∧ (¬ v1 ≠ 1 → (Ev (d + 1) M_Ap_twice 0 0 95 [(2, v0), zJ, zJ, zJ, zJ, (0, s0)] [(0, 1), (2, m v0 8), (2, m v0 2)] kd m (zqI kd q)))))) : Ev (d + 1) M_Ap_twice 0 0 75 [(2, v0), (0, v1), zJ, zJ, zJ, zJ] [(0, s0)] kd m (zqI kd q) := by
  obtain ⟨o1, o2, h⟩ := h
  refine EvX.blk (pc' := 87) [(.istore 5, 0, 0), (.aload_n 0, 0, 0), (.getfield 26, 7, 2), (.aload_n 0, 0, 0), (.getfield 62, 7, 8), (.iload_n 1, 0, 0), (.iconst 1, 0, 0)] (by decide +kernel) ⟨g_Ap_26, g_Ap_62, trivial⟩ ⟨o1, o2, ?_⟩
  show Ev (d + 1) M_Ap_twice 0 0 87 [(2, v0), (0, v1), zJ, zJ, zJ, (0, s0)] [(0, 1), (0, v1), (2, m v0 8), (2, m v0 2)] kd m (zqI kd q)
  refine EvX.icmp_ne (off := 7) (tgt := 94) (by decide +kernel) (by decide) (fun hc => ?_) (fun hc => ?_)
  · have h := h.1 hc
    refine EvX.blk (pc' := 95) [(.iconst 0, 0, 0)] (by decide +kernel) trivial ?_
    show Ev (d + 1) M_Ap_twice 0 0 95 [(2, v0), (0, v1), zJ, zJ, zJ, (0, s0)] [(0, 0), (2, m v0 8), (2, m v0 2)] kd m (zqI kd q)
    exact EvX.weak (ls2 := [(2, v0), zJ, zJ, zJ, zJ, (0, s0)]) (zwk_of ⟨Or.inr rfl, Or.inl rfl, Or.inl rfl, Or.inl rfl, Or.inl rfl, Or.inr rfl, trivial⟩) h
  · have h := h.2 hc
    refine EvX.blk (pc' := 91) [(.iconst 1, 0, 0)] (by decide +kernel) trivial ?_
    show Ev (d + 1) M_Ap_twice 0 0 91 [(2, v0), (0, v1), zJ, zJ, zJ, (0, s0)] [(0, 1), (2, m v0 8), (2, m v0 2)] kd m (zqI kd q)
    refine EvX.goto (off := 4) (tgt := 95) (by decide +kernel) (by decide) ?_
    exact EvX.weak (ls2 := [(2, v0), zJ, zJ, zJ, zJ, (0, s0)]) (zwk_of ⟨Or.inr rfl, Or.inl rfl, Or.inl rfl, Or.inl rfl, Or.inl rfl, Or.inr rfl, trivial⟩) h
set_option maxRecDepth 20000 in
set_option maxHeartbeats 1000000 in
theorem T_Ap_twice_95 {d : Nat} {kd : ZK} {m : ZM} {q : Int → ZM → Prop} {v0 v5 s0 s1 s2 : Int} (h : (zobj kd s0 5 ∧ ∃ q1, CtV d M_Table_loadTwice [(2, s0), (2, s1), (0, s2)] kd m q1 ∧ ∀ m3, q1 m3 → (zobj kd v0 7 ∧ (zobj kd (m3 v0 2) 5 ∧ ∃ q4, CtI d M_Table_mostAbove [(2, m3 v0 2), (0, v5)] kd m3 q4 ∧ ∀ x5 m6, q4 x5 m6 → q x5 m6)))) : Ev (d + 1) M_Ap_twice 0 0 95 [(2, v0), zJ, zJ, zJ, zJ, (0, v5)] [(0, s2), (2, s1), (2, s0)] kd m (zqI kd q) := by
  obtain ⟨ov, h⟩ := h
  obtain ⟨q1, hq, h⟩ := h
  refine EvX.callV (c := 5) (mc := 0) (ms := 0) (as := [(2, s1), (0, s2)]) (st := []) (by decide +kernel) l_Ap_284 k_Table_loadTwice v_Table_loadTwice a_Table_loadTwice (by decide) (Nat.le_of_ble_eq_true rfl) rfl ov hq (fun r kd1 m3 hr => ?_)
  obtain ⟨rfl, hk, hr⟩ := hr
  subst kd1
  have h := h m3 hr
  show Ev (d + 1) M_Ap_twice 0 0 98 [(2, v0), zJ, zJ, zJ, zJ, (0, v5)] [] kd m3 (zqI kd q)
  obtain ⟨o1, h⟩ := h
  refine EvX.blk (pc' := 104) [(.aload_n 0, 0, 0), (.getfield 26, 7, 2), (.iload 5, 0, 0)] (by decide +kernel) ⟨g_Ap_26, trivial⟩ ⟨o1, ?_⟩
  show Ev (d + 1) M_Ap_twice 0 0 104 [(2, v0), zJ, zJ, zJ, zJ, (0, v5)] [(0, v5), (2, m3 v0 2)] kd m3 (zqI kd q)
  obtain ⟨ov, h⟩ := h
  obtain ⟨q4, hq, h⟩ := h
  refine EvX.callV (c := 5) (mc := 0) (ms := 0) (as := [(0, v5)]) (st := []) (by decide +kernel) l_Ap_288 k_Table_mostAbove v_Table_mostAbove a_Table_mostAbove (by decide) (Nat.le_of_ble_eq_true rfl) rfl ov hq (fun r kd1 m6 hr => ?_)
  obtain ⟨x5, rfl, hk, hr⟩ := hr
  subst kd1
  have h := h x5 m6 hr
  show Ev (d + 1) M_Ap_twice 0 0 107 [(2, v0), zJ, zJ, zJ, zJ, (0, v5)] [(0, x5)] kd m6 (zqI kd q)
  exact EvX.ret (r := (0, x5)) (by decide +kernel) rfl ⟨_, rfl, rfl, h⟩
set_option maxRecDepth 20000 in
set_option maxHeartbeats 1000000 in
theorem T_Ap_product_0 {d : Nat} {kd : ZK} {m : ZM} {q : Int → ZM → Prop} {v0 : Int} (h : (zobj kd v0 7 ∧ (zobj kd (m v0 8) 1 ∧ ∃ q1, CtI d M_Game_isTold [(2, m v0 8)] kd m q1 ∧ ∀ x2 m3, q1 x2 m3 → ((x2 ≠ 0 → (zobj kd v0 7 ∧ (zobj kd (m3 v0 8) 1 ∧ ∃ q4, CtI d M_Game_isParityGame [(2, m3 v0 8)] kd m3 q4 ∧ ∀ x5 m6, q4 x5 m6 → ((x5 ≠ 0 → (zobj kd v0 7 ∧ zobj kd (m6 v0 8) 1 ∧ (((m6 (m6 v0 8) 0) ≤ 4 → (zobj kd v0 7 ∧ ∃ q7, CtI d M_Ap_mostBias [(2, v0)] kd m6 q7 ∧ ∀ x8 m9, q7 x8 m9 → (zobj kd v0 7 ∧ zobj kd v0 7 ∧ (zobj kd (m9 v0 2) 5 ∧ ∃ q10, CtV d M_Table_loadWithItself [(2, m9 v0 2), (2, m9 v0 8)] kd m9 q10 ∧ ∀ m12, q10 m12 → (zobj kd v0 7 ∧ (zobj kd (m12 v0 2) 5 ∧ ∃ q13, CtI d M_Table_mostAbove [(2, m12 v0 2), (0, iw (x8 * x8))] kd m12 q13 ∧ ∀ x14 m15, q13 x14 m15 → q x14 m15)))))) ∧ (¬ (m6 (m6 v0 8) 0) ≤ 4 → q (-2001) m6)))) ∧ (¬ x5 ≠ 0 → q (-2000) m6))))) ∧ (¬ x2 ≠ 0 → q (-1) m3))))) : Ev (d + 1) M_Ap_product 0 0 0 [(2, v0), zJ] [] kd m (zqI kd q) := by
  obtain ⟨o1, h⟩ := h
  refine EvX.blk (pc' := 4) [(.aload_n 0, 0, 0), (.getfield 62, 7, 8)] (by decide +kernel) ⟨g_Ap_62, trivial⟩ ⟨o1, ?_⟩
  show Ev (d + 1) M_Ap_product 0 0 4 [(2, v0), zJ] [(2, m v0 8)] kd m (zqI kd q)
  obtain ⟨ov, h⟩ := h
  obtain ⟨q1, hq, h⟩ := h
  refine EvX.callV (c := 1) (mc := 0) (ms := 0) (as := []) (st := []) (by decide +kernel) l_Ap_135 k_Game_isTold v_Game_isTold a_Game_isTold (by decide) (Nat.le_of_ble_eq_true rfl) rfl ov hq (fun r kd1 m3 hr => ?_)
  obtain ⟨x2, rfl, hk, hr⟩ := hr
  subst kd1
  have h := h x2 m3 hr
  show Ev (d + 1) M_Ap_product 0 0 7 [(2, v0), zJ] [(0, x2)] kd m3 (zqI kd q)
  refine EvX.if_ne (off := 5) (tgt := 12) (by decide +kernel) (by decide) (fun hc => ?_) (fun hc => ?_)
  · have h := h.1 hc
    obtain ⟨o1, h⟩ := h
    refine EvX.blk (pc' := 16) [(.aload_n 0, 0, 0), (.getfield 62, 7, 8)] (by decide +kernel) ⟨g_Ap_62, trivial⟩ ⟨o1, ?_⟩
    show Ev (d + 1) M_Ap_product 0 0 16 [(2, v0), zJ] [(2, m3 v0 8)] kd m3 (zqI kd q)
    obtain ⟨ov, h⟩ := h
    obtain ⟨q4, hq, h⟩ := h
    refine EvX.callV (c := 1) (mc := 0) (ms := 0) (as := []) (st := []) (by decide +kernel) l_Ap_270 k_Game_isParityGame v_Game_isParityGame a_Game_isParityGame (by decide) (Nat.le_of_ble_eq_true rfl) rfl ov hq (fun r kd1 m6 hr => ?_)
    obtain ⟨x5, rfl, hk, hr⟩ := hr
    subst kd1
    have h := h x5 m6 hr
    show Ev (d + 1) M_Ap_product 0 0 19 [(2, v0), zJ] [(0, x5)] kd m6 (zqI kd q)
    refine EvX.if_ne (off := 7) (tgt := 26) (by decide +kernel) (by decide) (fun hc => ?_) (fun hc => ?_)
    · have h := h.1 hc
      obtain ⟨o1, o2, h⟩ := h
      refine EvX.blk (pc' := 34) [(.aload_n 0, 0, 0), (.getfield 62, 7, 8), (.getfield 90, 1, 0), (.iconst 4, 0, 0)] (by decide +kernel) ⟨g_Ap_62, g_Ap_90, trivial⟩ ⟨o1, o2, ?_⟩
      show Ev (d + 1) M_Ap_product 0 0 34 [(2, v0), zJ] [(0, 4), (0, m6 (m6 v0 8) 0)] kd m6 (zqI kd q)
      refine EvX.icmp_le (off := 7) (tgt := 41) (by decide +kernel) (by decide) (fun hc => ?_) (fun hc => ?_)
      · have h := h.1 hc
        refine EvX.blk (pc' := 42) [(.aload_n 0, 0, 0)] (by decide +kernel) trivial ?_
        show Ev (d + 1) M_Ap_product 0 0 42 [(2, v0), zJ] [(2, v0)] kd m6 (zqI kd q)
        obtain ⟨ov, h⟩ := h
        obtain ⟨q7, hq, h⟩ := h
        refine EvX.callV (c := 7) (mc := 0) (ms := 0) (as := []) (st := []) (by decide +kernel) l_Ap_273 k_Ap_mostBias v_Ap_mostBias a_Ap_mostBias (by decide) (Nat.le_of_ble_eq_true rfl) rfl ov hq (fun r kd1 m9 hr => ?_)
        obtain ⟨x8, rfl, hk, hr⟩ := hr
        subst kd1
        have h := h x8 m9 hr
        show Ev (d + 1) M_Ap_product 0 0 45 [(2, v0), zJ] [(0, x8)] kd m9 (zqI kd q)
        obtain ⟨o1, o2, h⟩ := h
        refine EvX.blk (pc' := 54) [(.istore_n 1, 0, 0), (.aload_n 0, 0, 0), (.getfield 26, 7, 2), (.aload_n 0, 0, 0), (.getfield 62, 7, 8)] (by decide +kernel) ⟨g_Ap_26, g_Ap_62, trivial⟩ ⟨o1, o2, ?_⟩
        show Ev (d + 1) M_Ap_product 0 0 54 [(2, v0), (0, x8)] [(2, m9 v0 8), (2, m9 v0 2)] kd m9 (zqI kd q)
        obtain ⟨ov, h⟩ := h
        obtain ⟨q10, hq, h⟩ := h
        refine EvX.callV (c := 5) (mc := 0) (ms := 0) (as := [(2, m9 v0 8)]) (st := []) (by decide +kernel) l_Ap_291 k_Table_loadWithItself v_Table_loadWithItself a_Table_loadWithItself (by decide) (Nat.le_of_ble_eq_true rfl) rfl ov hq (fun r kd1 m12 hr => ?_)
        obtain ⟨rfl, hk, hr⟩ := hr
        subst kd1
        have h := h m12 hr
        show Ev (d + 1) M_Ap_product 0 0 57 [(2, v0), (0, x8)] [] kd m12 (zqI kd q)
        obtain ⟨o1, h⟩ := h
        refine EvX.blk (pc' := 64) [(.aload_n 0, 0, 0), (.getfield 26, 7, 2), (.iload_n 1, 0, 0), (.iload_n 1, 0, 0), (.imul, 0, 0)] (by decide +kernel) ⟨g_Ap_26, trivial⟩ ⟨o1, ?_⟩
        show Ev (d + 1) M_Ap_product 0 0 64 [(2, v0), (0, x8)] [(0, iw (x8 * x8)), (2, m12 v0 2)] kd m12 (zqI kd q)
        obtain ⟨ov, h⟩ := h
        obtain ⟨q13, hq, h⟩ := h
        refine EvX.callV (c := 5) (mc := 0) (ms := 0) (as := [(0, iw (x8 * x8))]) (st := []) (by decide +kernel) l_Ap_288 k_Table_mostAbove v_Table_mostAbove a_Table_mostAbove (by decide) (Nat.le_of_ble_eq_true rfl) rfl ov hq (fun r kd1 m15 hr => ?_)
        obtain ⟨x14, rfl, hk, hr⟩ := hr
        subst kd1
        have h := h x14 m15 hr
        show Ev (d + 1) M_Ap_product 0 0 67 [(2, v0), (0, x8)] [(0, x14)] kd m15 (zqI kd q)
        exact EvX.ret (r := (0, x14)) (by decide +kernel) rfl ⟨_, rfl, rfl, h⟩
      · have h := h.2 hc
        refine EvX.blk (pc' := 40) [(.sipush (-2001), 0, 0)] (by decide +kernel) trivial ?_
        show Ev (d + 1) M_Ap_product 0 0 40 [(2, v0), zJ] [(0, (-2001))] kd m6 (zqI kd q)
        exact EvX.ret (r := (0, (-2001))) (by decide +kernel) rfl ⟨_, rfl, rfl, h⟩
    · have h := h.2 hc
      refine EvX.blk (pc' := 25) [(.sipush (-2000), 0, 0)] (by decide +kernel) trivial ?_
      show Ev (d + 1) M_Ap_product 0 0 25 [(2, v0), zJ] [(0, (-2000))] kd m6 (zqI kd q)
      exact EvX.ret (r := (0, (-2000))) (by decide +kernel) rfl ⟨_, rfl, rfl, h⟩
  · have h := h.2 hc
    refine EvX.blk (pc' := 11) [(.iconst (-1), 0, 0)] (by decide +kernel) trivial ?_
    show Ev (d + 1) M_Ap_product 0 0 11 [(2, v0), zJ] [(0, (-1))] kd m3 (zqI kd q)
    exact EvX.ret (r := (0, (-1))) (by decide +kernel) rfl ⟨_, rfl, rfl, h⟩
theorem S_Ap_product {d : Nat} {kd : ZK} {m : ZM} {q : Int → ZM → Prop} {v0 : Int} (h : (zobj kd v0 7 ∧ (zobj kd (m v0 8) 1 ∧ ∃ q1, CtI d M_Game_isTold [(2, m v0 8)] kd m q1 ∧ ∀ x2 m3, q1 x2 m3 → ((x2 ≠ 0 → (zobj kd v0 7 ∧ (zobj kd (m3 v0 8) 1 ∧ ∃ q4, CtI d M_Game_isParityGame [(2, m3 v0 8)] kd m3 q4 ∧ ∀ x5 m6, q4 x5 m6 → ((x5 ≠ 0 → (zobj kd v0 7 ∧ zobj kd (m6 v0 8) 1 ∧ (((m6 (m6 v0 8) 0) ≤ 4 → (zobj kd v0 7 ∧ ∃ q7, CtI d M_Ap_mostBias [(2, v0)] kd m6 q7 ∧ ∀ x8 m9, q7 x8 m9 → (zobj kd v0 7 ∧ zobj kd v0 7 ∧ (zobj kd (m9 v0 2) 5 ∧ ∃ q10, CtV d M_Table_loadWithItself [(2, m9 v0 2), (2, m9 v0 8)] kd m9 q10 ∧ ∀ m12, q10 m12 → (zobj kd v0 7 ∧ (zobj kd (m12 v0 2) 5 ∧ ∃ q13, CtI d M_Table_mostAbove [(2, m12 v0 2), (0, iw (x8 * x8))] kd m12 q13 ∧ ∀ x14 m15, q13 x14 m15 → q x14 m15)))))) ∧ (¬ (m6 (m6 v0 8) 0) ≤ 4 → q (-2001) m6)))) ∧ (¬ x5 ≠ 0 → q (-2000) m6))))) ∧ (¬ x2 ≠ 0 → q (-1) m3))))) : CtI (d + 1) M_Ap_product [(2, v0)] kd m q :=
  Ct.start k_Ap_product (Nat.le_of_ble_eq_true rfl) ⟨1, Or.inr (Or.inl ⟨rfl, rfl⟩)⟩ (T_Ap_product_0 h)
set_option maxRecDepth 20000 in
set_option maxHeartbeats 1000000 in
theorem T_Ap_boxed_0 {d : Nat} {kd : ZK} {m : ZM} {q : Int → ZM → Prop} {v0 v1 : Int} (h : (zobj kd v0 7 ∧ (zobj kd (m v0 8) 1 ∧ ∃ q1, CtI d M_Game_isTold [(2, m v0 8)] kd m q1 ∧ ∀ x2 m3, q1 x2 m3 → ((x2 ≠ 0 → (((v1 < 0 ∨ 3 < v1) → q (-1) m3) ∧ (v1 = 0 → (zobj kd v0 7 ∧ (zobj kd (m3 v0 8) 1 ∧ ∃ q4, CtI d M_Game_boxWorth [(2, m3 v0 8)] kd m3 q4 ∧ ∀ x5 m6, q4 x5 m6 → q x5 m6))) ∧ (v1 = 1 → (zobj kd v0 7 ∧ (zobj kd (m3 v0 8) 1 ∧ ∃ q7, CtI d M_Game_isWhole [(2, m3 v0 8)] kd m3 q7 ∧ ∀ x8 m9, q7 x8 m9 → ((x8 = 0 → q 0 m9) ∧ (¬ x8 = 0 → q 1 m9))))) ∧ (v1 = 2 → (zobj kd v0 7 ∧ (zobj kd (m3 v0 8) 1 ∧ ∃ q10, CtI d M_Game_signalsTo [(2, m3 v0 8), (0, 0)] kd m3 q10 ∧ ∀ x11 m12, q10 x11 m12 → ((x11 ≠ 0 → q 1 m12) ∧ (¬ x11 ≠ 0 → (zobj kd v0 7 ∧ (zobj kd (m12 v0 8) 1 ∧ ∃ q13, CtI d M_Game_signalsTo [(2, m12 v0 8), (0, 1)] kd m12 q13 ∧ ∀ x14 m15, q13 x14 m15 → ((x14 = 0 → q 0 m15) ∧ (¬ x14 = 0 → q 1 m15))))))))) ∧ (v1 = 3 → (zobj kd v0 7 ∧ (zobj kd (m3 v0 8) 1 ∧ ∃ q16, CtI d M_Game_boxWorth [(2, m3 v0 8)] kd m3 q16 ∧ ∀ x17 m18, q16 x17 m18 → (zobj kd v0 7 ∧ (zobj kd v0 7 ∧ ∃ q19, CtI d M_Ap_mostOf [(2, v0), (2, m18 v0 8)] kd m18 q19 ∧ ∀ x20 m21, q19 x20 m21 → ((x17 ≤ (iw (12 * x20)) → q 0 m21) ∧ (¬ x17 ≤ (iw (12 * x20)) → q 1 m21))))))))) ∧ (¬ x2 ≠ 0 → q (-1) m3))))) : Ev (d + 1) M_Ap_boxed 0 0 0 [(2, v0), (0, v1)] [] kd m (zqI kd q) := by
  obtain ⟨o1, h⟩ := h
  refine EvX.blk (pc' := 4) [(.aload_n 0, 0, 0), (.getfield 62, 7, 8)] (by decide +kernel) ⟨g_Ap_62, trivial⟩ ⟨o1, ?_⟩
  show Ev (d + 1) M_Ap_boxed 0 0 4 [(2, v0), (0, v1)] [(2, m v0 8)] kd m (zqI kd q)
  obtain ⟨ov, h⟩ := h
  obtain ⟨q1, hq, h⟩ := h
  refine EvX.callV (c := 1) (mc := 0) (ms := 0) (as := []) (st := []) (by decide +kernel) l_Ap_135 k_Game_isTold v_Game_isTold a_Game_isTold (by decide) (Nat.le_of_ble_eq_true rfl) rfl ov hq (fun r kd1 m3 hr => ?_)
  obtain ⟨x2, rfl, hk, hr⟩ := hr
  subst kd1
  have h := h x2 m3 hr
  show Ev (d + 1) M_Ap_boxed 0 0 7 [(2, v0), (0, v1)] [(0, x2)] kd m3 (zqI kd q)
  refine EvX.if_ne (off := 5) (tgt := 12) (by decide +kernel) (by decide) (fun hc => ?_) (fun hc => ?_)
  · have h := h.1 hc
    refine EvX.blk (pc' := 13) [(.iload_n 1, 0, 0)] (by decide +kernel) trivial ?_
    show Ev (d + 1) M_Ap_boxed 0 0 13 [(2, v0), (0, v1)] [(0, v1)] kd m3 (zqI kd q)
    refine EvX.tsw (dflt := 110) (lo := 0) (hi := 3) (offs := #[31, 39, 55, 83]) (len := 31) (n := 4) (df := 123) (tgt := fun k => match k with | 0 => 44 | 1 => 52 | 2 => 68 | 3 => 96 | _ => 123) (by decide +kernel) (by decide) (by decide) (by decide) (fun hc => ?_) (fun hc => ?_)
    · have h := h.1 hc
      refine EvX.blk (pc' := 124) [(.iconst (-1), 0, 0)] (by decide +kernel) trivial ?_
      show Ev (d + 1) M_Ap_boxed 0 0 124 [(2, v0), (0, v1)] [(0, (-1))] kd m3 (zqI kd q)
      exact EvX.ret (r := (0, (-1))) (by decide +kernel) rfl ⟨_, rfl, rfl, h⟩
    · have h := h.2
      rcases (show v1 = 0 ∨ v1 = 1 ∨ v1 = 2 ∨ v1 = 3 by omega) with hk | hk | hk | hk
      · have h := h.1 hk
        have ek : (v1 - 0).toNat = 0 := by omega
        rw [ek]
        show Ev (d + 1) M_Ap_boxed 0 0 44 [(2, v0), (0, v1)] [] kd m3 (zqI kd q)
        obtain ⟨o1, h⟩ := h
        refine EvX.blk (pc' := 48) [(.aload_n 0, 0, 0), (.getfield 62, 7, 8)] (by decide +kernel) ⟨g_Ap_62, trivial⟩ ⟨o1, ?_⟩
        show Ev (d + 1) M_Ap_boxed 0 0 48 [(2, v0), (0, v1)] [(2, m3 v0 8)] kd m3 (zqI kd q)
        obtain ⟨ov, h⟩ := h
        obtain ⟨q4, hq, h⟩ := h
        refine EvX.callV (c := 1) (mc := 0) (ms := 0) (as := []) (st := []) (by decide +kernel) l_Ap_294 k_Game_boxWorth v_Game_boxWorth a_Game_boxWorth (by decide) (Nat.le_of_ble_eq_true rfl) rfl ov hq (fun r kd1 m6 hr => ?_)
        obtain ⟨x5, rfl, hk, hr⟩ := hr
        subst kd1
        have h := h x5 m6 hr
        show Ev (d + 1) M_Ap_boxed 0 0 51 [(2, v0), (0, v1)] [(0, x5)] kd m6 (zqI kd q)
        exact EvX.ret (r := (0, x5)) (by decide +kernel) rfl ⟨_, rfl, rfl, h⟩
      · have h := h.2.1 hk
        have ek : (v1 - 0).toNat = 1 := by omega
        rw [ek]
        show Ev (d + 1) M_Ap_boxed 0 0 52 [(2, v0), (0, v1)] [] kd m3 (zqI kd q)
        obtain ⟨o1, h⟩ := h
        refine EvX.blk (pc' := 56) [(.aload_n 0, 0, 0), (.getfield 62, 7, 8)] (by decide +kernel) ⟨g_Ap_62, trivial⟩ ⟨o1, ?_⟩
        show Ev (d + 1) M_Ap_boxed 0 0 56 [(2, v0), (0, v1)] [(2, m3 v0 8)] kd m3 (zqI kd q)
        obtain ⟨ov, h⟩ := h
        obtain ⟨q7, hq, h⟩ := h
        refine EvX.callV (c := 1) (mc := 0) (ms := 0) (as := []) (st := []) (by decide +kernel) l_Ap_297 k_Game_isWhole v_Game_isWhole a_Game_isWhole (by decide) (Nat.le_of_ble_eq_true rfl) rfl ov hq (fun r kd1 m9 hr => ?_)
        obtain ⟨x8, rfl, hk, hr⟩ := hr
        subst kd1
        have h := h x8 m9 hr
        show Ev (d + 1) M_Ap_boxed 0 0 59 [(2, v0), (0, v1)] [(0, x8)] kd m9 (zqI kd q)
        refine EvX.if_eq (off := 7) (tgt := 66) (by decide +kernel) (by decide) (fun hc => ?_) (fun hc => ?_)
        · have h := h.1 hc
          refine EvX.blk (pc' := 67) [(.iconst 0, 0, 0)] (by decide +kernel) trivial ?_
          show Ev (d + 1) M_Ap_boxed 0 0 67 [(2, v0), (0, v1)] [(0, 0)] kd m9 (zqI kd q)
          exact EvX.ret (r := (0, 0)) (by decide +kernel) rfl ⟨_, rfl, rfl, h⟩
        · have h := h.2 hc
          refine EvX.blk (pc' := 63) [(.iconst 1, 0, 0)] (by decide +kernel) trivial ?_
          show Ev (d + 1) M_Ap_boxed 0 0 63 [(2, v0), (0, v1)] [(0, 1)] kd m9 (zqI kd q)
          refine EvX.goto (off := 4) (tgt := 67) (by decide +kernel) (by decide) ?_
          exact EvX.ret (r := (0, 1)) (by decide +kernel) rfl ⟨_, rfl, rfl, h⟩
      · have h := h.2.2.1 hk
        have ek : (v1 - 0).toNat = 2 := by omega
        rw [ek]
        show Ev (d + 1) M_Ap_boxed 0 0 68 [(2, v0), (0, v1)] [] kd m3 (zqI kd q)
        obtain ⟨o1, h⟩ := h
        refine EvX.blk (pc' := 73) [(.aload_n 0, 0, 0), (.getfield 62, 7, 8), (.iconst 0, 0, 0)] (by decide +kernel) ⟨g_Ap_62, trivial⟩ ⟨o1, ?_⟩
        show Ev (d + 1) M_Ap_boxed 0 0 73 [(2, v0), (0, v1)] [(0, 0), (2, m3 v0 8)] kd m3 (zqI kd q)
        obtain ⟨ov, h⟩ := h
        obtain ⟨q10, hq, h⟩ := h
        refine EvX.callV (c := 1) (mc := 0) (ms := 0) (as := [(0, 0)]) (st := []) (by decide +kernel) l_Ap_300 k_Game_signalsTo v_Game_signalsTo a_Game_signalsTo (by decide) (Nat.le_of_ble_eq_true rfl) rfl ov hq (fun r kd1 m12 hr => ?_)
        obtain ⟨x11, rfl, hk, hr⟩ := hr
        subst kd1
        have h := h x11 m12 hr
        show Ev (d + 1) M_Ap_boxed 0 0 76 [(2, v0), (0, v1)] [(0, x11)] kd m12 (zqI kd q)
        refine EvX.if_ne (off := 14) (tgt := 90) (by decide +kernel) (by decide) (fun hc => ?_) (fun hc => ?_)
        · have h := h.1 hc
          refine EvX.blk (pc' := 91) [(.iconst 1, 0, 0)] (by decide +kernel) trivial ?_
          show Ev (d + 1) M_Ap_boxed 0 0 91 [(2, v0), (0, v1)] [(0, 1)] kd m12 (zqI kd q)
          refine EvX.goto (off := 4) (tgt := 95) (by decide +kernel) (by decide) ?_
          exact EvX.ret (r := (0, 1)) (by decide +kernel) rfl ⟨_, rfl, rfl, h⟩
        · have h := h.2 hc
          obtain ⟨o1, h⟩ := h
          refine EvX.blk (pc' := 84) [(.aload_n 0, 0, 0), (.getfield 62, 7, 8), (.iconst 1, 0, 0)] (by decide +kernel) ⟨g_Ap_62, trivial⟩ ⟨o1, ?_⟩
          show Ev (d + 1) M_Ap_boxed 0 0 84 [(2, v0), (0, v1)] [(0, 1), (2, m12 v0 8)] kd m12 (zqI kd q)
          obtain ⟨ov, h⟩ := h
          obtain ⟨q13, hq, h⟩ := h
          refine EvX.callV (c := 1) (mc := 0) (ms := 0) (as := [(0, 1)]) (st := []) (by decide +kernel) l_Ap_300 k_Game_signalsTo v_Game_signalsTo a_Game_signalsTo (by decide) (Nat.le_of_ble_eq_true rfl) rfl ov hq (fun r kd1 m15 hr => ?_)
          obtain ⟨x14, rfl, hk, hr⟩ := hr
          subst kd1
          have h := h x14 m15 hr
          show Ev (d + 1) M_Ap_boxed 0 0 87 [(2, v0), (0, v1)] [(0, x14)] kd m15 (zqI kd q)
          refine EvX.if_eq (off := 7) (tgt := 94) (by decide +kernel) (by decide) (fun hc => ?_) (fun hc => ?_)
          · have h := h.1 hc
            refine EvX.blk (pc' := 95) [(.iconst 0, 0, 0)] (by decide +kernel) trivial ?_
            show Ev (d + 1) M_Ap_boxed 0 0 95 [(2, v0), (0, v1)] [(0, 0)] kd m15 (zqI kd q)
            exact EvX.ret (r := (0, 0)) (by decide +kernel) rfl ⟨_, rfl, rfl, h⟩
          · have h := h.2 hc
            refine EvX.blk (pc' := 91) [(.iconst 1, 0, 0)] (by decide +kernel) trivial ?_
            show Ev (d + 1) M_Ap_boxed 0 0 91 [(2, v0), (0, v1)] [(0, 1)] kd m15 (zqI kd q)
            refine EvX.goto (off := 4) (tgt := 95) (by decide +kernel) (by decide) ?_
            exact EvX.ret (r := (0, 1)) (by decide +kernel) rfl ⟨_, rfl, rfl, h⟩
      · have h := h.2.2.2 hk
        have ek : (v1 - 0).toNat = 3 := by omega
        rw [ek]
        show Ev (d + 1) M_Ap_boxed 0 0 96 [(2, v0), (0, v1)] [] kd m3 (zqI kd q)
        obtain ⟨o1, h⟩ := h
        refine EvX.blk (pc' := 100) [(.aload_n 0, 0, 0), (.getfield 62, 7, 8)] (by decide +kernel) ⟨g_Ap_62, trivial⟩ ⟨o1, ?_⟩
        show Ev (d + 1) M_Ap_boxed 0 0 100 [(2, v0), (0, v1)] [(2, m3 v0 8)] kd m3 (zqI kd q)
        obtain ⟨ov, h⟩ := h
        obtain ⟨q16, hq, h⟩ := h
        refine EvX.callV (c := 1) (mc := 0) (ms := 0) (as := []) (st := []) (by decide +kernel) l_Ap_294 k_Game_boxWorth v_Game_boxWorth a_Game_boxWorth (by decide) (Nat.le_of_ble_eq_true rfl) rfl ov hq (fun r kd1 m18 hr => ?_)
        obtain ⟨x17, rfl, hk, hr⟩ := hr
        subst kd1
        have h := h x17 m18 hr
        show Ev (d + 1) M_Ap_boxed 0 0 103 [(2, v0), (0, v1)] [(0, x17)] kd m18 (zqI kd q)
        obtain ⟨o1, h⟩ := h
        refine EvX.blk (pc' := 110) [(.bipush 12, 0, 0), (.aload_n 0, 0, 0), (.aload_n 0, 0, 0), (.getfield 62, 7, 8)] (by decide +kernel) ⟨g_Ap_62, trivial⟩ ⟨o1, ?_⟩
        show Ev (d + 1) M_Ap_boxed 0 0 110 [(2, v0), (0, v1)] [(2, m18 v0 8), (2, v0), (0, 12), (0, x17)] kd m18 (zqI kd q)
        obtain ⟨ov, h⟩ := h
        obtain ⟨q19, hq, h⟩ := h
        refine EvX.callV (c := 7) (mc := 0) (ms := 0) (as := [(2, m18 v0 8)]) (st := [(0, 12), (0, x17)]) (by decide +kernel) l_Ap_184 k_Ap_mostOf v_Ap_mostOf a_Ap_mostOf (by decide) (Nat.le_of_ble_eq_true rfl) rfl ov hq (fun r kd1 m21 hr => ?_)
        obtain ⟨x20, rfl, hk, hr⟩ := hr
        subst kd1
        have h := h x20 m21 hr
        show Ev (d + 1) M_Ap_boxed 0 0 113 [(2, v0), (0, v1)] [(0, x20), (0, 12), (0, x17)] kd m21 (zqI kd q)
        refine EvX.blk (pc' := 114) [(.imul, 0, 0)] (by decide +kernel) trivial ?_
        show Ev (d + 1) M_Ap_boxed 0 0 114 [(2, v0), (0, v1)] [(0, iw (12 * x20)), (0, x17)] kd m21 (zqI kd q)
        refine EvX.icmp_le (off := 7) (tgt := 121) (by decide +kernel) (by decide) (fun hc => ?_) (fun hc => ?_)
        · have h := h.1 hc
          refine EvX.blk (pc' := 122) [(.iconst 0, 0, 0)] (by decide +kernel) trivial ?_
          show Ev (d + 1) M_Ap_boxed 0 0 122 [(2, v0), (0, v1)] [(0, 0)] kd m21 (zqI kd q)
          exact EvX.ret (r := (0, 0)) (by decide +kernel) rfl ⟨_, rfl, rfl, h⟩
        · have h := h.2 hc
          refine EvX.blk (pc' := 118) [(.iconst 1, 0, 0)] (by decide +kernel) trivial ?_
          show Ev (d + 1) M_Ap_boxed 0 0 118 [(2, v0), (0, v1)] [(0, 1)] kd m21 (zqI kd q)
          refine EvX.goto (off := 4) (tgt := 122) (by decide +kernel) (by decide) ?_
          exact EvX.ret (r := (0, 1)) (by decide +kernel) rfl ⟨_, rfl, rfl, h⟩
  · have h := h.2 hc
    refine EvX.blk (pc' := 11) [(.iconst (-1), 0, 0)] (by decide +kernel) trivial ?_
    show Ev (d + 1) M_Ap_boxed 0 0 11 [(2, v0), (0, v1)] [(0, (-1))] kd m3 (zqI kd q)
    exact EvX.ret (r := (0, (-1))) (by decide +kernel) rfl ⟨_, rfl, rfl, h⟩
theorem S_Ap_boxed {d : Nat} {kd : ZK} {m : ZM} {q : Int → ZM → Prop} {v0 v1 : Int} (h : (zobj kd v0 7 ∧ (zobj kd (m v0 8) 1 ∧ ∃ q1, CtI d M_Game_isTold [(2, m v0 8)] kd m q1 ∧ ∀ x2 m3, q1 x2 m3 → ((x2 ≠ 0 → (((v1 < 0 ∨ 3 < v1) → q (-1) m3) ∧ (v1 = 0 → (zobj kd v0 7 ∧ (zobj kd (m3 v0 8) 1 ∧ ∃ q4, CtI d M_Game_boxWorth [(2, m3 v0 8)] kd m3 q4 ∧ ∀ x5 m6, q4 x5 m6 → q x5 m6))) ∧ (v1 = 1 → (zobj kd v0 7 ∧ (zobj kd (m3 v0 8) 1 ∧ ∃ q7, CtI d M_Game_isWhole [(2, m3 v0 8)] kd m3 q7 ∧ ∀ x8 m9, q7 x8 m9 → ((x8 = 0 → q 0 m9) ∧ (¬ x8 = 0 → q 1 m9))))) ∧ (v1 = 2 → (zobj kd v0 7 ∧ (zobj kd (m3 v0 8) 1 ∧ ∃ q10, CtI d M_Game_signalsTo [(2, m3 v0 8), (0, 0)] kd m3 q10 ∧ ∀ x11 m12, q10 x11 m12 → ((x11 ≠ 0 → q 1 m12) ∧ (¬ x11 ≠ 0 → (zobj kd v0 7 ∧ (zobj kd (m12 v0 8) 1 ∧ ∃ q13, CtI d M_Game_signalsTo [(2, m12 v0 8), (0, 1)] kd m12 q13 ∧ ∀ x14 m15, q13 x14 m15 → ((x14 = 0 → q 0 m15) ∧ (¬ x14 = 0 → q 1 m15))))))))) ∧ (v1 = 3 → (zobj kd v0 7 ∧ (zobj kd (m3 v0 8) 1 ∧ ∃ q16, CtI d M_Game_boxWorth [(2, m3 v0 8)] kd m3 q16 ∧ ∀ x17 m18, q16 x17 m18 → (zobj kd v0 7 ∧ (zobj kd v0 7 ∧ ∃ q19, CtI d M_Ap_mostOf [(2, v0), (2, m18 v0 8)] kd m18 q19 ∧ ∀ x20 m21, q19 x20 m21 → ((x17 ≤ (iw (12 * x20)) → q 0 m21) ∧ (¬ x17 ≤ (iw (12 * x20)) → q 1 m21))))))))) ∧ (¬ x2 ≠ 0 → q (-1) m3))))) : CtI (d + 1) M_Ap_boxed [(2, v0), (0, v1)] kd m q :=
  Ct.start k_Ap_boxed (Nat.le_of_ble_eq_true rfl) ⟨1, Or.inr (Or.inl ⟨rfl, rfl⟩)⟩ (T_Ap_boxed_0 h)
set_option maxRecDepth 20000 in
set_option maxHeartbeats 1000000 in
theorem T_Ap_marginal_0 {d : Nat} {kd : ZK} {m : ZM} {q : Int → ZM → Prop} {v0 v1 v2 v3 v4 : Int} (h : (zobj kd v0 7 ∧ (zobj kd (m v0 8) 1 ∧ ∃ q1, CtI d M_Game_hasQuestion [(2, m v0 8), (0, v1), (0, v2)] kd m q1 ∧ ∀ x2 m3, q1 x2 m3 → ((x2 = 0 → q (-1) m3) ∧ (¬ x2 = 0 → (zobj kd v0 7 ∧ (zobj kd (m3 v0 8) 1 ∧ ∃ q4, CtI d M_Game_hasAnswer [(2, m3 v0 8), (0, v1), (0, v3)] kd m3 q4 ∧ ∀ x5 m6, q4 x5 m6 → ((x5 = 0 → q (-1) m6) ∧ (¬ x5 = 0 → (zobj kd v0 7 ∧ (zobj kd (m6 v0 8) 1 ∧ ∃ q7, CtI d M_Game_hasQuestion [(2, m6 v0 8), (0, iw (1 - v1)), (0, v4)] kd m6 q7 ∧ ∀ x8 m9, q7 x8 m9 → ((x8 ≠ 0 → (zobj kd v0 7 ∧ (zobj kd (m9 v0 8) 1 ∧ ∃ q10, CtI d M_Game_howOften [(2, m9 v0 8), (0, v1), (0, v2), (0, v3), (0, v4)] kd m9 q10 ∧ ∀ x11 m12, q10 x11 m12 → q x11 m12))) ∧ (¬ x8 ≠ 0 → q (-1) m9))))))))))))) : Ev (d + 1) M_Ap_marginal 0 0 0 [(2, v0), (0, v1), (0, v2), (0, v3), (0, v4)] [] kd m (zqI kd q) := by
  obtain ⟨o1, h⟩ := h
  refine EvX.blk (pc' := 6) [(.aload_n 0, 0, 0), (.getfield 62, 7, 8), (.iload_n 1, 0, 0), (.iload_n 2, 0, 0)] (by decide +kernel) ⟨g_Ap_62, trivial⟩ ⟨o1, ?_⟩
  show Ev (d + 1) M_Ap_marginal 0 0 6 [(2, v0), (0, v1), (0, v2), (0, v3), (0, v4)] [(0, v2), (0, v1), (2, m v0 8)] kd m (zqI kd q)
  obtain ⟨ov, h⟩ := h
  obtain ⟨q1, hq, h⟩ := h
  refine EvX.callV (c := 1) (mc := 0) (ms := 0) (as := [(0, v1), (0, v2)]) (st := []) (by decide +kernel) l_Ap_141 k_Game_hasQuestion v_Game_hasQuestion a_Game_hasQuestion (by decide) (Nat.le_of_ble_eq_true rfl) rfl ov hq (fun r kd1 m3 hr => ?_)
  obtain ⟨x2, rfl, hk, hr⟩ := hr
  subst kd1
  have h := h x2 m3 hr
  show Ev (d + 1) M_Ap_marginal 0 0 9 [(2, v0), (0, v1), (0, v2), (0, v3), (0, v4)] [(0, x2)] kd m3 (zqI kd q)
  refine EvX.if_eq (off := 30) (tgt := 39) (by decide +kernel) (by decide) (fun hc => ?_) (fun hc => ?_)
  · have h := h.1 hc
    refine EvX.blk (pc' := 40) [(.iconst (-1), 0, 0)] (by decide +kernel) trivial ?_
    show Ev (d + 1) M_Ap_marginal 0 0 40 [(2, v0), (0, v1), (0, v2), (0, v3), (0, v4)] [(0, (-1))] kd m3 (zqI kd q)
    exact EvX.ret (r := (0, (-1))) (by decide +kernel) rfl ⟨_, rfl, rfl, h⟩
  · have h := h.2 hc
    obtain ⟨o1, h⟩ := h
    refine EvX.blk (pc' := 18) [(.aload_n 0, 0, 0), (.getfield 62, 7, 8), (.iload_n 1, 0, 0), (.iload_n 3, 0, 0)] (by decide +kernel) ⟨g_Ap_62, trivial⟩ ⟨o1, ?_⟩
    show Ev (d + 1) M_Ap_marginal 0 0 18 [(2, v0), (0, v1), (0, v2), (0, v3), (0, v4)] [(0, v3), (0, v1), (2, m3 v0 8)] kd m3 (zqI kd q)
    obtain ⟨ov, h⟩ := h
    obtain ⟨q4, hq, h⟩ := h
    refine EvX.callV (c := 1) (mc := 0) (ms := 0) (as := [(0, v1), (0, v3)]) (st := []) (by decide +kernel) l_Ap_303 k_Game_hasAnswer v_Game_hasAnswer a_Game_hasAnswer (by decide) (Nat.le_of_ble_eq_true rfl) rfl ov hq (fun r kd1 m6 hr => ?_)
    obtain ⟨x5, rfl, hk, hr⟩ := hr
    subst kd1
    have h := h x5 m6 hr
    show Ev (d + 1) M_Ap_marginal 0 0 21 [(2, v0), (0, v1), (0, v2), (0, v3), (0, v4)] [(0, x5)] kd m6 (zqI kd q)
    refine EvX.if_eq (off := 18) (tgt := 39) (by decide +kernel) (by decide) (fun hc => ?_) (fun hc => ?_)
    · have h := h.1 hc
      refine EvX.blk (pc' := 40) [(.iconst (-1), 0, 0)] (by decide +kernel) trivial ?_
      show Ev (d + 1) M_Ap_marginal 0 0 40 [(2, v0), (0, v1), (0, v2), (0, v3), (0, v4)] [(0, (-1))] kd m6 (zqI kd q)
      exact EvX.ret (r := (0, (-1))) (by decide +kernel) rfl ⟨_, rfl, rfl, h⟩
    · have h := h.2 hc
      obtain ⟨o1, h⟩ := h
      refine EvX.blk (pc' := 33) [(.aload_n 0, 0, 0), (.getfield 62, 7, 8), (.iconst 1, 0, 0), (.iload_n 1, 0, 0), (.isub, 0, 0), (.iload 4, 0, 0)] (by decide +kernel) ⟨g_Ap_62, trivial⟩ ⟨o1, ?_⟩
      show Ev (d + 1) M_Ap_marginal 0 0 33 [(2, v0), (0, v1), (0, v2), (0, v3), (0, v4)] [(0, v4), (0, iw (1 - v1)), (2, m6 v0 8)] kd m6 (zqI kd q)
      obtain ⟨ov, h⟩ := h
      obtain ⟨q7, hq, h⟩ := h
      refine EvX.callV (c := 1) (mc := 0) (ms := 0) (as := [(0, iw (1 - v1)), (0, v4)]) (st := []) (by decide +kernel) l_Ap_141 k_Game_hasQuestion v_Game_hasQuestion a_Game_hasQuestion (by decide) (Nat.le_of_ble_eq_true rfl) rfl ov hq (fun r kd1 m9 hr => ?_)
      obtain ⟨x8, rfl, hk, hr⟩ := hr
      subst kd1
      have h := h x8 m9 hr
      show Ev (d + 1) M_Ap_marginal 0 0 36 [(2, v0), (0, v1), (0, v2), (0, v3), (0, v4)] [(0, x8)] kd m9 (zqI kd q)
      refine EvX.if_ne (off := 5) (tgt := 41) (by decide +kernel) (by decide) (fun hc => ?_) (fun hc => ?_)
      · have h := h.1 hc
        obtain ⟨o1, h⟩ := h
        refine EvX.blk (pc' := 50) [(.aload_n 0, 0, 0), (.getfield 62, 7, 8), (.iload_n 1, 0, 0), (.iload_n 2, 0, 0), (.iload_n 3, 0, 0), (.iload 4, 0, 0)] (by decide +kernel) ⟨g_Ap_62, trivial⟩ ⟨o1, ?_⟩
        show Ev (d + 1) M_Ap_marginal 0 0 50 [(2, v0), (0, v1), (0, v2), (0, v3), (0, v4)] [(0, v4), (0, v3), (0, v2), (0, v1), (2, m9 v0 8)] kd m9 (zqI kd q)
        obtain ⟨ov, h⟩ := h
        obtain ⟨q10, hq, h⟩ := h
        refine EvX.callV (c := 1) (mc := 0) (ms := 0) (as := [(0, v1), (0, v2), (0, v3), (0, v4)]) (st := []) (by decide +kernel) l_Ap_306 k_Game_howOften v_Game_howOften a_Game_howOften (by decide) (Nat.le_of_ble_eq_true rfl) rfl ov hq (fun r kd1 m12 hr => ?_)
        obtain ⟨x11, rfl, hk, hr⟩ := hr
        subst kd1
        have h := h x11 m12 hr
        show Ev (d + 1) M_Ap_marginal 0 0 53 [(2, v0), (0, v1), (0, v2), (0, v3), (0, v4)] [(0, x11)] kd m12 (zqI kd q)
        exact EvX.ret (r := (0, x11)) (by decide +kernel) rfl ⟨_, rfl, rfl, h⟩
      · have h := h.2 hc
        refine EvX.blk (pc' := 40) [(.iconst (-1), 0, 0)] (by decide +kernel) trivial ?_
        show Ev (d + 1) M_Ap_marginal 0 0 40 [(2, v0), (0, v1), (0, v2), (0, v3), (0, v4)] [(0, (-1))] kd m9 (zqI kd q)
        exact EvX.ret (r := (0, (-1))) (by decide +kernel) rfl ⟨_, rfl, rfl, h⟩
theorem S_Ap_marginal {d : Nat} {kd : ZK} {m : ZM} {q : Int → ZM → Prop} {v0 v1 v2 v3 v4 : Int} (h : (zobj kd v0 7 ∧ (zobj kd (m v0 8) 1 ∧ ∃ q1, CtI d M_Game_hasQuestion [(2, m v0 8), (0, v1), (0, v2)] kd m q1 ∧ ∀ x2 m3, q1 x2 m3 → ((x2 = 0 → q (-1) m3) ∧ (¬ x2 = 0 → (zobj kd v0 7 ∧ (zobj kd (m3 v0 8) 1 ∧ ∃ q4, CtI d M_Game_hasAnswer [(2, m3 v0 8), (0, v1), (0, v3)] kd m3 q4 ∧ ∀ x5 m6, q4 x5 m6 → ((x5 = 0 → q (-1) m6) ∧ (¬ x5 = 0 → (zobj kd v0 7 ∧ (zobj kd (m6 v0 8) 1 ∧ ∃ q7, CtI d M_Game_hasQuestion [(2, m6 v0 8), (0, iw (1 - v1)), (0, v4)] kd m6 q7 ∧ ∀ x8 m9, q7 x8 m9 → ((x8 ≠ 0 → (zobj kd v0 7 ∧ (zobj kd (m9 v0 8) 1 ∧ ∃ q10, CtI d M_Game_howOften [(2, m9 v0 8), (0, v1), (0, v2), (0, v3), (0, v4)] kd m9 q10 ∧ ∀ x11 m12, q10 x11 m12 → q x11 m12))) ∧ (¬ x8 ≠ 0 → q (-1) m9))))))))))))) : CtI (d + 1) M_Ap_marginal [(2, v0), (0, v1), (0, v2), (0, v3), (0, v4)] kd m q :=
  Ct.start k_Ap_marginal (Nat.le_of_ble_eq_true rfl) ⟨1, Or.inr (Or.inl ⟨rfl, rfl⟩)⟩ (T_Ap_marginal_0 h)
set_option maxRecDepth 20000 in
set_option maxHeartbeats 1000000 in
theorem T_Ap_symmetries_0 {d : Nat} {kd : ZK} {m : ZM} {q : Int → ZM → Prop} {v0 : Int} (h : (zobj kd v0 7 ∧ (zobj kd (m v0 8) 1 ∧ ∃ q1, CtI d M_Game_isTold [(2, m v0 8)] kd m q1 ∧ ∀ x2 m3, q1 x2 m3 → ((x2 = 0 → q (-1) m3) ∧ (¬ x2 = 0 → (zobj kd v0 7 ∧ zobj kd v0 7 ∧ (zobj kd (m3 v0 4) 4 ∧ ∃ q4, CtI d M_Shape_ordersOf [(2, m3 v0 4), (2, m3 v0 8)] kd m3 q4 ∧ ∀ x5 m6, q4 x5 m6 → q x5 m6))))))) : Ev (d + 1) M_Ap_symmetries 0 0 0 [(2, v0)] [] kd m (zqI kd q) := by
  obtain ⟨o1, h⟩ := h
  refine EvX.blk (pc' := 4) [(.aload_n 0, 0, 0), (.getfield 62, 7, 8)] (by decide +kernel) ⟨g_Ap_62, trivial⟩ ⟨o1, ?_⟩
  show Ev (d + 1) M_Ap_symmetries 0 0 4 [(2, v0)] [(2, m v0 8)] kd m (zqI kd q)
  obtain ⟨ov, h⟩ := h
  obtain ⟨q1, hq, h⟩ := h
  refine EvX.callV (c := 1) (mc := 0) (ms := 0) (as := []) (st := []) (by decide +kernel) l_Ap_135 k_Game_isTold v_Game_isTold a_Game_isTold (by decide) (Nat.le_of_ble_eq_true rfl) rfl ov hq (fun r kd1 m3 hr => ?_)
  obtain ⟨x2, rfl, hk, hr⟩ := hr
  subst kd1
  have h := h x2 m3 hr
  show Ev (d + 1) M_Ap_symmetries 0 0 7 [(2, v0)] [(0, x2)] kd m3 (zqI kd q)
  refine EvX.if_eq (off := 17) (tgt := 24) (by decide +kernel) (by decide) (fun hc => ?_) (fun hc => ?_)
  · have h := h.1 hc
    refine EvX.blk (pc' := 25) [(.iconst (-1), 0, 0)] (by decide +kernel) trivial ?_
    show Ev (d + 1) M_Ap_symmetries 0 0 25 [(2, v0)] [(0, (-1))] kd m3 (zqI kd q)
    exact EvX.ret (r := (0, (-1))) (by decide +kernel) rfl ⟨_, rfl, rfl, h⟩
  · have h := h.2 hc
    obtain ⟨o1, o2, h⟩ := h
    refine EvX.blk (pc' := 18) [(.aload_n 0, 0, 0), (.getfield 40, 7, 4), (.aload_n 0, 0, 0), (.getfield 62, 7, 8)] (by decide +kernel) ⟨g_Ap_40, g_Ap_62, trivial⟩ ⟨o1, o2, ?_⟩
    show Ev (d + 1) M_Ap_symmetries 0 0 18 [(2, v0)] [(2, m3 v0 8), (2, m3 v0 4)] kd m3 (zqI kd q)
    obtain ⟨ov, h⟩ := h
    obtain ⟨q4, hq, h⟩ := h
    refine EvX.callV (c := 4) (mc := 0) (ms := 0) (as := [(2, m3 v0 8)]) (st := []) (by decide +kernel) l_Ap_310 k_Shape_ordersOf v_Shape_ordersOf a_Shape_ordersOf (by decide) (Nat.le_of_ble_eq_true rfl) rfl ov hq (fun r kd1 m6 hr => ?_)
    obtain ⟨x5, rfl, hk, hr⟩ := hr
    subst kd1
    have h := h x5 m6 hr
    show Ev (d + 1) M_Ap_symmetries 0 0 21 [(2, v0)] [(0, x5)] kd m6 (zqI kd q)
    refine EvX.goto (off := 4) (tgt := 25) (by decide +kernel) (by decide) ?_
    exact EvX.ret (r := (0, x5)) (by decide +kernel) rfl ⟨_, rfl, rfl, h⟩
theorem S_Ap_symmetries {d : Nat} {kd : ZK} {m : ZM} {q : Int → ZM → Prop} {v0 : Int} (h : (zobj kd v0 7 ∧ (zobj kd (m v0 8) 1 ∧ ∃ q1, CtI d M_Game_isTold [(2, m v0 8)] kd m q1 ∧ ∀ x2 m3, q1 x2 m3 → ((x2 = 0 → q (-1) m3) ∧ (¬ x2 = 0 → (zobj kd v0 7 ∧ zobj kd v0 7 ∧ (zobj kd (m3 v0 4) 4 ∧ ∃ q4, CtI d M_Shape_ordersOf [(2, m3 v0 4), (2, m3 v0 8)] kd m3 q4 ∧ ∀ x5 m6, q4 x5 m6 → q x5 m6))))))) : CtI (d + 1) M_Ap_symmetries [(2, v0)] kd m q :=
  Ct.start k_Ap_symmetries (Nat.le_of_ble_eq_true rfl) ⟨1, Or.inr (Or.inl ⟨rfl, rfl⟩)⟩ (T_Ap_symmetries_0 h)
set_option maxRecDepth 20000 in
set_option maxHeartbeats 1000000 in
theorem T_Ap_letter_0 {d : Nat} {kd : ZK} {m : ZM} {q : Int → ZM → Prop} {v0 v1 : Int} (h : (((-1) ≤ v1 → (zobj kd v0 7 ∧ zobj kd v0 7 ∧ (zobj kd (m v0 5) 3 ∧ ∃ q1, CtI d M_Scribe_write [(2, m v0 5), (2, m v0 8), (0, v1)] kd m q1 ∧ ∀ x2 m3, q1 x2 m3 → ((v1 ≠ (-1) → ((x2 ≤ v1 → q (-2) m3) ∧ (¬ x2 ≤ v1 → (zobj kd v0 7 ∧ zobj kd (m3 v0 5) 3 ∧ q (m3 (m3 v0 5) 1) m3)))) ∧ (¬ v1 ≠ (-1) → q x2 m3))))) ∧ (¬ (-1) ≤ v1 → q (-1) m))) : Ev (d + 1) M_Ap_letter 0 0 0 [(2, v0), (0, v1), zJ] [] kd m (zqI kd q) := by
  refine EvX.blk (pc' := 2) [(.iload_n 1, 0, 0), (.iconst (-1), 0, 0)] (by decide +kernel) trivial ?_
  show Ev (d + 1) M_Ap_letter 0 0 2 [(2, v0), (0, v1), zJ] [(0, (-1)), (0, v1)] kd m (zqI kd q)
  refine EvX.icmp_ge (off := 5) (tgt := 7) (by decide +kernel) (by decide) (fun hc => ?_) (fun hc => ?_)
  · have h := h.1 hc
    obtain ⟨o1, o2, h⟩ := h
    refine EvX.blk (pc' := 16) [(.aload_n 0, 0, 0), (.getfield 47, 7, 5), (.aload_n 0, 0, 0), (.getfield 62, 7, 8), (.iload_n 1, 0, 0)] (by decide +kernel) ⟨g_Ap_47, g_Ap_62, trivial⟩ ⟨o1, o2, ?_⟩
    show Ev (d + 1) M_Ap_letter 0 0 16 [(2, v0), (0, v1), zJ] [(0, v1), (2, m v0 8), (2, m v0 5)] kd m (zqI kd q)
    obtain ⟨ov, h⟩ := h
    obtain ⟨q1, hq, h⟩ := h
    refine EvX.callV (c := 3) (mc := 0) (ms := 0) (as := [(2, m v0 8), (0, v1)]) (st := []) (by decide +kernel) l_Ap_313 k_Scribe_write v_Scribe_write a_Scribe_write (by decide) (Nat.le_of_ble_eq_true rfl) rfl ov hq (fun r kd1 m3 hr => ?_)
    obtain ⟨x2, rfl, hk, hr⟩ := hr
    subst kd1
    have h := h x2 m3 hr
    show Ev (d + 1) M_Ap_letter 0 0 19 [(2, v0), (0, v1), zJ] [(0, x2)] kd m3 (zqI kd q)
    refine EvX.blk (pc' := 22) [(.istore_n 2, 0, 0), (.iload_n 1, 0, 0), (.iconst (-1), 0, 0)] (by decide +kernel) trivial ?_
    show Ev (d + 1) M_Ap_letter 0 0 22 [(2, v0), (0, v1), (0, x2)] [(0, (-1)), (0, v1)] kd m3 (zqI kd q)
    refine EvX.icmp_ne (off := 5) (tgt := 27) (by decide +kernel) (by decide) (fun hc => ?_) (fun hc => ?_)
    · have h := h.1 hc
      refine EvX.blk (pc' := 29) [(.iload_n 1, 0, 0), (.iload_n 2, 0, 0)] (by decide +kernel) trivial ?_
      show Ev (d + 1) M_Ap_letter 0 0 29 [(2, v0), (0, v1), (0, x2)] [(0, x2), (0, v1)] kd m3 (zqI kd q)
      refine EvX.icmp_ge (off := 13) (tgt := 42) (by decide +kernel) (by decide) (fun hc => ?_) (fun hc => ?_)
      · have h := h.1 hc
        refine EvX.blk (pc' := 44) [(.bipush (-2), 0, 0)] (by decide +kernel) trivial ?_
        show Ev (d + 1) M_Ap_letter 0 0 44 [(2, v0), (0, v1), (0, x2)] [(0, (-2))] kd m3 (zqI kd q)
        exact EvX.ret (r := (0, (-2))) (by decide +kernel) rfl ⟨_, rfl, rfl, h⟩
      · have h := h.2 hc
        obtain ⟨o1, o2, h⟩ := h
        refine EvX.blk (pc' := 39) [(.aload_n 0, 0, 0), (.getfield 47, 7, 5), (.getfield 316, 3, 1)] (by decide +kernel) ⟨g_Ap_47, g_Ap_316, trivial⟩ ⟨o1, o2, ?_⟩
        show Ev (d + 1) M_Ap_letter 0 0 39 [(2, v0), (0, v1), (0, x2)] [(0, m3 (m3 v0 5) 1)] kd m3 (zqI kd q)
        refine EvX.goto (off := 5) (tgt := 44) (by decide +kernel) (by decide) ?_
        exact EvX.ret (r := (0, m3 (m3 v0 5) 1)) (by decide +kernel) rfl ⟨_, rfl, rfl, h⟩
    · have h := h.2 hc
      refine EvX.blk (pc' := 26) [(.iload_n 2, 0, 0)] (by decide +kernel) trivial ?_
      show Ev (d + 1) M_Ap_letter 0 0 26 [(2, v0), (0, v1), (0, x2)] [(0, x2)] kd m3 (zqI kd q)
      exact EvX.ret (r := (0, x2)) (by decide +kernel) rfl ⟨_, rfl, rfl, h⟩
  · have h := h.2 hc
    refine EvX.blk (pc' := 6) [(.iconst (-1), 0, 0)] (by decide +kernel) trivial ?_
    show Ev (d + 1) M_Ap_letter 0 0 6 [(2, v0), (0, v1), zJ] [(0, (-1))] kd m (zqI kd q)
    exact EvX.ret (r := (0, (-1))) (by decide +kernel) rfl ⟨_, rfl, rfl, h⟩
theorem S_Ap_letter {d : Nat} {kd : ZK} {m : ZM} {q : Int → ZM → Prop} {v0 v1 : Int} (h : (((-1) ≤ v1 → (zobj kd v0 7 ∧ zobj kd v0 7 ∧ (zobj kd (m v0 5) 3 ∧ ∃ q1, CtI d M_Scribe_write [(2, m v0 5), (2, m v0 8), (0, v1)] kd m q1 ∧ ∀ x2 m3, q1 x2 m3 → ((v1 ≠ (-1) → ((x2 ≤ v1 → q (-2) m3) ∧ (¬ x2 ≤ v1 → (zobj kd v0 7 ∧ zobj kd (m3 v0 5) 3 ∧ q (m3 (m3 v0 5) 1) m3)))) ∧ (¬ v1 ≠ (-1) → q x2 m3))))) ∧ (¬ (-1) ≤ v1 → q (-1) m))) : CtI (d + 1) M_Ap_letter [(2, v0), (0, v1)] kd m q :=
  Ct.start k_Ap_letter (Nat.le_of_ble_eq_true rfl) ⟨1, Or.inr (Or.inl ⟨rfl, rfl⟩)⟩ (T_Ap_letter_0 h)
set_option maxRecDepth 20000 in
set_option maxHeartbeats 1000000 in
theorem T_Ap_count_0 {d : Nat} {kd : ZK} {m : ZM} {q : Int → ZM → Prop} {v0 v1 : Int} (h : (((v1 < 0 ∨ 7 < v1) → q (-1) m) ∧ (v1 = 0 → (zobj kd v0 7 ∧ zobj kd (m v0 8) 1 ∧ q (m (m v0 8) 0) m)) ∧ (v1 = 1 → (zobj kd v0 7 ∧ zobj kd (m v0 8) 1 ∧ q (m (m v0 8) 1) m)) ∧ (v1 = 2 → (zobj kd v0 7 ∧ zobj kd (m v0 8) 1 ∧ q (m (m v0 8) 2) m)) ∧ (v1 = 3 → (zobj kd v0 7 ∧ zobj kd (m v0 8) 1 ∧ q (m (m v0 8) 3) m)) ∧ (v1 = 4 → (zobj kd v0 7 ∧ (zobj kd (m v0 8) 1 ∧ ∃ q1, CtI d M_Game_winningSpots [(2, m v0 8)] kd m q1 ∧ ∀ x2 m3, q1 x2 m3 → q x2 m3))) ∧ (v1 = 5 → (zobj kd v0 7 ∧ zobj kd (m v0 1) 2 ∧ q (m (m v0 1) 2) m)) ∧ (v1 = 6 → (zobj kd v0 7 ∧ zobj kd (m v0 0) 6 ∧ q (m (m v0 0) 1) m)) ∧ (v1 = 7 → (zobj kd v0 7 ∧ q (m v0 7) m)))) : Ev (d + 1) M_Ap_count 0 0 0 [(2, v0), (0, v1)] [] kd m (zqI kd q) := by
  refine EvX.blk (pc' := 1) [(.iload_n 1, 0, 0)] (by decide +kernel) trivial ?_
  show Ev (d + 1) M_Ap_count 0 0 1 [(2, v0), (0, v1)] [(0, v1)] kd m (zqI kd q)
  refine EvX.tsw (dflt := 108) (lo := 0) (hi := 7) (offs := #[47, 55, 63, 71, 79, 87, 95, 103]) (len := 47) (n := 8) (df := 109) (tgt := fun k => match k with | 0 => 48 | 1 => 56 | 2 => 64 | 3 => 72 | 4 => 80 | 5 => 88 | 6 => 96 | 7 => 104 | _ => 109) (by decide +kernel) (by decide) (by decide) (by decide) (fun hc => ?_) (fun hc => ?_)
  · have h := h.1 hc
    refine EvX.blk (pc' := 110) [(.iconst (-1), 0, 0)] (by decide +kernel) trivial ?_
    show Ev (d + 1) M_Ap_count 0 0 110 [(2, v0), (0, v1)] [(0, (-1))] kd m (zqI kd q)
    exact EvX.ret (r := (0, (-1))) (by decide +kernel) rfl ⟨_, rfl, rfl, h⟩
  · have h := h.2
    rcases (show v1 = 0 ∨ v1 = 1 ∨ v1 = 2 ∨ v1 = 3 ∨ v1 = 4 ∨ v1 = 5 ∨ v1 = 6 ∨ v1 = 7 by omega) with hk | hk | hk | hk | hk | hk | hk | hk
    · have h := h.1 hk
      have ek : (v1 - 0).toNat = 0 := by omega
      rw [ek]
      show Ev (d + 1) M_Ap_count 0 0 48 [(2, v0), (0, v1)] [] kd m (zqI kd q)
      obtain ⟨o1, o2, h⟩ := h
      refine EvX.blk (pc' := 55) [(.aload_n 0, 0, 0), (.getfield 62, 7, 8), (.getfield 90, 1, 0)] (by decide +kernel) ⟨g_Ap_62, g_Ap_90, trivial⟩ ⟨o1, o2, ?_⟩
      show Ev (d + 1) M_Ap_count 0 0 55 [(2, v0), (0, v1)] [(0, m (m v0 8) 0)] kd m (zqI kd q)
      exact EvX.ret (r := (0, m (m v0 8) 0)) (by decide +kernel) rfl ⟨_, rfl, rfl, h⟩
    · have h := h.2.1 hk
      have ek : (v1 - 0).toNat = 1 := by omega
      rw [ek]
      show Ev (d + 1) M_Ap_count 0 0 56 [(2, v0), (0, v1)] [] kd m (zqI kd q)
      obtain ⟨o1, o2, h⟩ := h
      refine EvX.blk (pc' := 63) [(.aload_n 0, 0, 0), (.getfield 62, 7, 8), (.getfield 319, 1, 1)] (by decide +kernel) ⟨g_Ap_62, g_Ap_319, trivial⟩ ⟨o1, o2, ?_⟩
      show Ev (d + 1) M_Ap_count 0 0 63 [(2, v0), (0, v1)] [(0, m (m v0 8) 1)] kd m (zqI kd q)
      exact EvX.ret (r := (0, m (m v0 8) 1)) (by decide +kernel) rfl ⟨_, rfl, rfl, h⟩
    · have h := h.2.2.1 hk
      have ek : (v1 - 0).toNat = 2 := by omega
      rw [ek]
      show Ev (d + 1) M_Ap_count 0 0 64 [(2, v0), (0, v1)] [] kd m (zqI kd q)
      obtain ⟨o1, o2, h⟩ := h
      refine EvX.blk (pc' := 71) [(.aload_n 0, 0, 0), (.getfield 62, 7, 8), (.getfield 239, 1, 2)] (by decide +kernel) ⟨g_Ap_62, g_Ap_239, trivial⟩ ⟨o1, o2, ?_⟩
      show Ev (d + 1) M_Ap_count 0 0 71 [(2, v0), (0, v1)] [(0, m (m v0 8) 2)] kd m (zqI kd q)
      exact EvX.ret (r := (0, m (m v0 8) 2)) (by decide +kernel) rfl ⟨_, rfl, rfl, h⟩
    · have h := h.2.2.2.1 hk
      have ek : (v1 - 0).toNat = 3 := by omega
      rw [ek]
      show Ev (d + 1) M_Ap_count 0 0 72 [(2, v0), (0, v1)] [] kd m (zqI kd q)
      obtain ⟨o1, o2, h⟩ := h
      refine EvX.blk (pc' := 79) [(.aload_n 0, 0, 0), (.getfield 62, 7, 8), (.getfield 242, 1, 3)] (by decide +kernel) ⟨g_Ap_62, g_Ap_242, trivial⟩ ⟨o1, o2, ?_⟩
      show Ev (d + 1) M_Ap_count 0 0 79 [(2, v0), (0, v1)] [(0, m (m v0 8) 3)] kd m (zqI kd q)
      exact EvX.ret (r := (0, m (m v0 8) 3)) (by decide +kernel) rfl ⟨_, rfl, rfl, h⟩
    · have h := h.2.2.2.2.1 hk
      have ek : (v1 - 0).toNat = 4 := by omega
      rw [ek]
      show Ev (d + 1) M_Ap_count 0 0 80 [(2, v0), (0, v1)] [] kd m (zqI kd q)
      obtain ⟨o1, h⟩ := h
      refine EvX.blk (pc' := 84) [(.aload_n 0, 0, 0), (.getfield 62, 7, 8)] (by decide +kernel) ⟨g_Ap_62, trivial⟩ ⟨o1, ?_⟩
      show Ev (d + 1) M_Ap_count 0 0 84 [(2, v0), (0, v1)] [(2, m v0 8)] kd m (zqI kd q)
      obtain ⟨ov, h⟩ := h
      obtain ⟨q1, hq, h⟩ := h
      refine EvX.callV (c := 1) (mc := 0) (ms := 0) (as := []) (st := []) (by decide +kernel) l_Ap_171 k_Game_winningSpots v_Game_winningSpots a_Game_winningSpots (by decide) (Nat.le_of_ble_eq_true rfl) rfl ov hq (fun r kd1 m3 hr => ?_)
      obtain ⟨x2, rfl, hk, hr⟩ := hr
      subst kd1
      have h := h x2 m3 hr
      show Ev (d + 1) M_Ap_count 0 0 87 [(2, v0), (0, v1)] [(0, x2)] kd m3 (zqI kd q)
      exact EvX.ret (r := (0, x2)) (by decide +kernel) rfl ⟨_, rfl, rfl, h⟩
    · have h := h.2.2.2.2.2.1 hk
      have ek : (v1 - 0).toNat = 5 := by omega
      rw [ek]
      show Ev (d + 1) M_Ap_count 0 0 88 [(2, v0), (0, v1)] [] kd m (zqI kd q)
      obtain ⟨o1, o2, h⟩ := h
      refine EvX.blk (pc' := 95) [(.aload_n 0, 0, 0), (.getfield 19, 7, 1), (.getfield 175, 2, 2)] (by decide +kernel) ⟨g_Ap_19, g_Ap_175, trivial⟩ ⟨o1, o2, ?_⟩
      show Ev (d + 1) M_Ap_count 0 0 95 [(2, v0), (0, v1)] [(0, m (m v0 1) 2)] kd m (zqI kd q)
      exact EvX.ret (r := (0, m (m v0 1) 2)) (by decide +kernel) rfl ⟨_, rfl, rfl, h⟩
    · have h := h.2.2.2.2.2.2.1 hk
      have ek : (v1 - 0).toNat = 6 := by omega
      rw [ek]
      show Ev (d + 1) M_Ap_count 0 0 96 [(2, v0), (0, v1)] [] kd m (zqI kd q)
      obtain ⟨o1, o2, h⟩ := h
      refine EvX.blk (pc' := 103) [(.aload_n 0, 0, 0), (.getfield 10, 7, 0), (.getfield 77, 6, 1)] (by decide +kernel) ⟨g_Ap_10, g_Ap_77, trivial⟩ ⟨o1, o2, ?_⟩
      show Ev (d + 1) M_Ap_count 0 0 103 [(2, v0), (0, v1)] [(0, m (m v0 0) 1)] kd m (zqI kd q)
      exact EvX.ret (r := (0, m (m v0 0) 1)) (by decide +kernel) rfl ⟨_, rfl, rfl, h⟩
    · have h := h.2.2.2.2.2.2.2 hk
      have ek : (v1 - 0).toNat = 7 := by omega
      rw [ek]
      show Ev (d + 1) M_Ap_count 0 0 104 [(2, v0), (0, v1)] [] kd m (zqI kd q)
      obtain ⟨o1, h⟩ := h
      refine EvX.blk (pc' := 108) [(.aload_n 0, 0, 0), (.getfield 58, 7, 7)] (by decide +kernel) ⟨g_Ap_58, trivial⟩ ⟨o1, ?_⟩
      show Ev (d + 1) M_Ap_count 0 0 108 [(2, v0), (0, v1)] [(0, m v0 7)] kd m (zqI kd q)
      exact EvX.ret (r := (0, m v0 7)) (by decide +kernel) rfl ⟨_, rfl, rfl, h⟩
theorem S_Ap_count {d : Nat} {kd : ZK} {m : ZM} {q : Int → ZM → Prop} {v0 v1 : Int} (h : (((v1 < 0 ∨ 7 < v1) → q (-1) m) ∧ (v1 = 0 → (zobj kd v0 7 ∧ zobj kd (m v0 8) 1 ∧ q (m (m v0 8) 0) m)) ∧ (v1 = 1 → (zobj kd v0 7 ∧ zobj kd (m v0 8) 1 ∧ q (m (m v0 8) 1) m)) ∧ (v1 = 2 → (zobj kd v0 7 ∧ zobj kd (m v0 8) 1 ∧ q (m (m v0 8) 2) m)) ∧ (v1 = 3 → (zobj kd v0 7 ∧ zobj kd (m v0 8) 1 ∧ q (m (m v0 8) 3) m)) ∧ (v1 = 4 → (zobj kd v0 7 ∧ (zobj kd (m v0 8) 1 ∧ ∃ q1, CtI d M_Game_winningSpots [(2, m v0 8)] kd m q1 ∧ ∀ x2 m3, q1 x2 m3 → q x2 m3))) ∧ (v1 = 5 → (zobj kd v0 7 ∧ zobj kd (m v0 1) 2 ∧ q (m (m v0 1) 2) m)) ∧ (v1 = 6 → (zobj kd v0 7 ∧ zobj kd (m v0 0) 6 ∧ q (m (m v0 0) 1) m)) ∧ (v1 = 7 → (zobj kd v0 7 ∧ q (m v0 7) m)))) : CtI (d + 1) M_Ap_count [(2, v0), (0, v1)] kd m q :=
  Ct.start k_Ap_count (Nat.le_of_ble_eq_true rfl) ⟨1, Or.inr (Or.inl ⟨rfl, rfl⟩)⟩ (T_Ap_count_0 h)
set_option maxRecDepth 20000 in
set_option maxHeartbeats 1000000 in
theorem T_Ap_takeSpare_0 {d : Nat} {kd : ZK} {m : ZM} {q : ZM → Prop} {v0 : Int} (h : (zobj kd v0 7 ∧ zobj kd v0 7 ∧ zobj kd v0 7 ∧ zobj kd v0 7 ∧ q (zup (zup m v0 8 (m v0 9)) v0 9 (m v0 8)))) : Ev (d + 1) M_Ap_takeSpare 0 0 0 [(2, v0), zJ] [] kd m (zqV kd q) := by
  obtain ⟨o1, o2, o3, o4, h⟩ := h
  refine EvX.blk (pc' := 18) [(.aload_n 0, 0, 0), (.getfield 62, 7, 8), (.astore_n 1, 0, 0), (.aload_n 0, 0, 0), (.aload_n 0, 0, 0), (.getfield 66, 7, 9), (.putfield 62, 7, 8), (.aload_n 0, 0, 0), (.aload_n 1, 0, 0), (.putfield 66, 7, 9)] (by decide +kernel) ⟨g_Ap_62, g_Ap_66, ⟨g_Ap_62, p_Ap_62⟩, ⟨g_Ap_66, p_Ap_66⟩, trivial⟩ ⟨o1, o2, rfl, o3, rfl, o4, ?_⟩
  show Ev (d + 1) M_Ap_takeSpare 0 0 18 [(2, v0), (2, m v0 8)] [] kd (zup (zup m v0 8 (m v0 9)) v0 9 (m v0 8)) (zqV kd q)
  exact EvX.ret (r := zJ) (by decide +kernel) rfl ⟨rfl, rfl, h⟩
theorem S_Ap_takeSpare {d : Nat} {kd : ZK} {m : ZM} {q : ZM → Prop} {v0 : Int} (h : (zobj kd v0 7 ∧ zobj kd v0 7 ∧ zobj kd v0 7 ∧ zobj kd v0 7 ∧ q (zup (zup m v0 8 (m v0 9)) v0 9 (m v0 8)))) : CtV (d + 1) M_Ap_takeSpare [(2, v0)] kd m q :=
  Ct.start k_Ap_takeSpare (Nat.le_of_ble_eq_true rfl) ⟨0, Or.inl ⟨rfl, rfl⟩⟩ (T_Ap_takeSpare_0 h)
set_option maxRecDepth 20000 in
set_option maxHeartbeats 1000000 in
theorem T_Ap_mostOf_0 {d : Nat} {kd : ZK} {m : ZM} {q : Int → ZM → Prop} {v0 v1 : Int} (h : (zobj kd v0 7 ∧ (zobj kd (m v0 2) 5 ∧ ∃ q1, CtV d M_Table_loadSome [(2, m v0 2), (2, v1), (0, 0), (0, 31)] kd m q1 ∧ ∀ m3, q1 m3 → (zobj kd v0 7 ∧ (zobj kd (m3 v0 2) 5 ∧ ∃ q4, CtI d M_Table_mostAbove [(2, m3 v0 2), (0, 0)] kd m3 q4 ∧ ∀ x5 m6, q4 x5 m6 → q x5 m6))))) : Ev (d + 1) M_Ap_mostOf 0 0 0 [(2, v0), (2, v1)] [] kd m (zqI kd q) := by
  obtain ⟨o1, h⟩ := h
  refine EvX.blk (pc' := 8) [(.aload_n 0, 0, 0), (.getfield 26, 7, 2), (.aload_n 1, 0, 0), (.iconst 0, 0, 0), (.bipush 31, 0, 0)] (by decide +kernel) ⟨g_Ap_26, trivial⟩ ⟨o1, ?_⟩
  show Ev (d + 1) M_Ap_mostOf 0 0 8 [(2, v0), (2, v1)] [(0, 31), (0, 0), (2, v1), (2, m v0 2)] kd m (zqI kd q)
  obtain ⟨ov, h⟩ := h
  obtain ⟨q1, hq, h⟩ := h
  refine EvX.callV (c := 5) (mc := 0) (ms := 0) (as := [(2, v1), (0, 0), (0, 31)]) (st := []) (by decide +kernel) l_Ap_190 k_Table_loadSome v_Table_loadSome a_Table_loadSome (by decide) (Nat.le_of_ble_eq_true rfl) rfl ov hq (fun r kd1 m3 hr => ?_)
  obtain ⟨rfl, hk, hr⟩ := hr
  subst kd1
  have h := h m3 hr
  show Ev (d + 1) M_Ap_mostOf 0 0 11 [(2, v0), (2, v1)] [] kd m3 (zqI kd q)
  obtain ⟨o1, h⟩ := h
  refine EvX.blk (pc' := 16) [(.aload_n 0, 0, 0), (.getfield 26, 7, 2), (.iconst 0, 0, 0)] (by decide +kernel) ⟨g_Ap_26, trivial⟩ ⟨o1, ?_⟩
  show Ev (d + 1) M_Ap_mostOf 0 0 16 [(2, v0), (2, v1)] [(0, 0), (2, m3 v0 2)] kd m3 (zqI kd q)
  obtain ⟨ov, h⟩ := h
  obtain ⟨q4, hq, h⟩ := h
  refine EvX.callV (c := 5) (mc := 0) (ms := 0) (as := [(0, 0)]) (st := []) (by decide +kernel) l_Ap_288 k_Table_mostAbove v_Table_mostAbove a_Table_mostAbove (by decide) (Nat.le_of_ble_eq_true rfl) rfl ov hq (fun r kd1 m6 hr => ?_)
  obtain ⟨x5, rfl, hk, hr⟩ := hr
  subst kd1
  have h := h x5 m6 hr
  show Ev (d + 1) M_Ap_mostOf 0 0 19 [(2, v0), (2, v1)] [(0, x5)] kd m6 (zqI kd q)
  exact EvX.ret (r := (0, x5)) (by decide +kernel) rfl ⟨_, rfl, rfl, h⟩
theorem S_Ap_mostOf {d : Nat} {kd : ZK} {m : ZM} {q : Int → ZM → Prop} {v0 v1 : Int} (h : (zobj kd v0 7 ∧ (zobj kd (m v0 2) 5 ∧ ∃ q1, CtV d M_Table_loadSome [(2, m v0 2), (2, v1), (0, 0), (0, 31)] kd m q1 ∧ ∀ m3, q1 m3 → (zobj kd v0 7 ∧ (zobj kd (m3 v0 2) 5 ∧ ∃ q4, CtI d M_Table_mostAbove [(2, m3 v0 2), (0, 0)] kd m3 q4 ∧ ∀ x5 m6, q4 x5 m6 → q x5 m6))))) : CtI (d + 1) M_Ap_mostOf [(2, v0), (2, v1)] kd m q :=
  Ct.start k_Ap_mostOf (Nat.le_of_ble_eq_true rfl) ⟨1, Or.inr (Or.inl ⟨rfl, rfl⟩)⟩ (T_Ap_mostOf_0 h)
set_option maxRecDepth 20000 in
set_option maxHeartbeats 1000000 in
theorem T_Ap_mostAsked_0 {d : Nat} {kd : ZK} {m : ZM} {q : Int → ZM → Prop} {v0 v1 : Int} (h : (zobj kd v0 7 ∧ zobj kd v0 7 ∧ (zobj kd (m v0 2) 5 ∧ ∃ q1, CtV d M_Table_loadSome [(2, m v0 2), (2, m v0 8), (0, 0), (0, v1)] kd m q1 ∧ ∀ m3, q1 m3 → (zobj kd v0 7 ∧ (zobj kd (m3 v0 2) 5 ∧ ∃ q4, CtI d M_Table_mostAbove [(2, m3 v0 2), (0, 0)] kd m3 q4 ∧ ∀ x5 m6, q4 x5 m6 → q x5 m6))))) : Ev (d + 1) M_Ap_mostAsked 0 0 0 [(2, v0), (0, v1)] [] kd m (zqI kd q) := by
  obtain ⟨o1, o2, h⟩ := h
  refine EvX.blk (pc' := 10) [(.aload_n 0, 0, 0), (.getfield 26, 7, 2), (.aload_n 0, 0, 0), (.getfield 62, 7, 8), (.iconst 0, 0, 0), (.iload_n 1, 0, 0)] (by decide +kernel) ⟨g_Ap_26, g_Ap_62, trivial⟩ ⟨o1, o2, ?_⟩
  show Ev (d + 1) M_Ap_mostAsked 0 0 10 [(2, v0), (0, v1)] [(0, v1), (0, 0), (2, m v0 8), (2, m v0 2)] kd m (zqI kd q)
  obtain ⟨ov, h⟩ := h
  obtain ⟨q1, hq, h⟩ := h
  refine EvX.callV (c := 5) (mc := 0) (ms := 0) (as := [(2, m v0 8), (0, 0), (0, v1)]) (st := []) (by decide +kernel) l_Ap_190 k_Table_loadSome v_Table_loadSome a_Table_loadSome (by decide) (Nat.le_of_ble_eq_true rfl) rfl ov hq (fun r kd1 m3 hr => ?_)
  obtain ⟨rfl, hk, hr⟩ := hr
  subst kd1
  have h := h m3 hr
  show Ev (d + 1) M_Ap_mostAsked 0 0 13 [(2, v0), (0, v1)] [] kd m3 (zqI kd q)
  obtain ⟨o1, h⟩ := h
  refine EvX.blk (pc' := 18) [(.aload_n 0, 0, 0), (.getfield 26, 7, 2), (.iconst 0, 0, 0)] (by decide +kernel) ⟨g_Ap_26, trivial⟩ ⟨o1, ?_⟩
  show Ev (d + 1) M_Ap_mostAsked 0 0 18 [(2, v0), (0, v1)] [(0, 0), (2, m3 v0 2)] kd m3 (zqI kd q)
  obtain ⟨ov, h⟩ := h
  obtain ⟨q4, hq, h⟩ := h
  refine EvX.callV (c := 5) (mc := 0) (ms := 0) (as := [(0, 0)]) (st := []) (by decide +kernel) l_Ap_288 k_Table_mostAbove v_Table_mostAbove a_Table_mostAbove (by decide) (Nat.le_of_ble_eq_true rfl) rfl ov hq (fun r kd1 m6 hr => ?_)
  obtain ⟨x5, rfl, hk, hr⟩ := hr
  subst kd1
  have h := h x5 m6 hr
  show Ev (d + 1) M_Ap_mostAsked 0 0 21 [(2, v0), (0, v1)] [(0, x5)] kd m6 (zqI kd q)
  exact EvX.ret (r := (0, x5)) (by decide +kernel) rfl ⟨_, rfl, rfl, h⟩
theorem S_Ap_mostAsked {d : Nat} {kd : ZK} {m : ZM} {q : Int → ZM → Prop} {v0 v1 : Int} (h : (zobj kd v0 7 ∧ zobj kd v0 7 ∧ (zobj kd (m v0 2) 5 ∧ ∃ q1, CtV d M_Table_loadSome [(2, m v0 2), (2, m v0 8), (0, 0), (0, v1)] kd m q1 ∧ ∀ m3, q1 m3 → (zobj kd v0 7 ∧ (zobj kd (m3 v0 2) 5 ∧ ∃ q4, CtI d M_Table_mostAbove [(2, m3 v0 2), (0, 0)] kd m3 q4 ∧ ∀ x5 m6, q4 x5 m6 → q x5 m6))))) : CtI (d + 1) M_Ap_mostAsked [(2, v0), (0, v1)] kd m q :=
  Ct.start k_Ap_mostAsked (Nat.le_of_ble_eq_true rfl) ⟨1, Or.inr (Or.inl ⟨rfl, rfl⟩)⟩ (T_Ap_mostAsked_0 h)
set_option maxRecDepth 20000 in
set_option maxHeartbeats 1000000 in
theorem T_Ap_mostBias_0 {d : Nat} {kd : ZK} {m : ZM} {q : Int → ZM → Prop} {v0 : Int} (h : (zobj kd v0 7 ∧ (zobj kd v0 7 ∧ ∃ q1, CtI d M_Ap_mostOf [(2, v0), (2, m v0 8)] kd m q1 ∧ ∀ x2 m3, q1 x2 m3 → (zobj kd v0 7 ∧ (zobj kd (m3 v0 8) 1 ∧ ∃ q4, CtI d M_Game_weightTogether [(2, m3 v0 8)] kd m3 q4 ∧ ∀ x5 m6, q4 x5 m6 → q (iw ((iw (2 * x2)) - x5)) m6))))) : Ev (d + 1) M_Ap_mostBias 0 0 0 [(2, v0)] [] kd m (zqI kd q) := by
  obtain ⟨o1, h⟩ := h
  refine EvX.blk (pc' := 6) [(.iconst 2, 0, 0), (.aload_n 0, 0, 0), (.aload_n 0, 0, 0), (.getfield 62, 7, 8)] (by decide +kernel) ⟨g_Ap_62, trivial⟩ ⟨o1, ?_⟩
  show Ev (d + 1) M_Ap_mostBias 0 0 6 [(2, v0)] [(2, m v0 8), (2, v0), (0, 2)] kd m (zqI kd q)
  obtain ⟨ov, h⟩ := h
  obtain ⟨q1, hq, h⟩ := h
  refine EvX.callV (c := 7) (mc := 0) (ms := 0) (as := [(2, m v0 8)]) (st := [(0, 2)]) (by decide +kernel) l_Ap_184 k_Ap_mostOf v_Ap_mostOf a_Ap_mostOf (by decide) (Nat.le_of_ble_eq_true rfl) rfl ov hq (fun r kd1 m3 hr => ?_)
  obtain ⟨x2, rfl, hk, hr⟩ := hr
  subst kd1
  have h := h x2 m3 hr
  show Ev (d + 1) M_Ap_mostBias 0 0 9 [(2, v0)] [(0, x2), (0, 2)] kd m3 (zqI kd q)
  obtain ⟨o1, h⟩ := h
  refine EvX.blk (pc' := 14) [(.imul, 0, 0), (.aload_n 0, 0, 0), (.getfield 62, 7, 8)] (by decide +kernel) ⟨g_Ap_62, trivial⟩ ⟨o1, ?_⟩
  show Ev (d + 1) M_Ap_mostBias 0 0 14 [(2, v0)] [(2, m3 v0 8), (0, iw (2 * x2))] kd m3 (zqI kd q)
  obtain ⟨ov, h⟩ := h
  obtain ⟨q4, hq, h⟩ := h
  refine EvX.callV (c := 1) (mc := 0) (ms := 0) (as := []) (st := [(0, iw (2 * x2))]) (by decide +kernel) l_Ap_187 k_Game_weightTogether v_Game_weightTogether a_Game_weightTogether (by decide) (Nat.le_of_ble_eq_true rfl) rfl ov hq (fun r kd1 m6 hr => ?_)
  obtain ⟨x5, rfl, hk, hr⟩ := hr
  subst kd1
  have h := h x5 m6 hr
  show Ev (d + 1) M_Ap_mostBias 0 0 17 [(2, v0)] [(0, x5), (0, iw (2 * x2))] kd m6 (zqI kd q)
  refine EvX.blk (pc' := 18) [(.isub, 0, 0)] (by decide +kernel) trivial ?_
  show Ev (d + 1) M_Ap_mostBias 0 0 18 [(2, v0)] [(0, iw ((iw (2 * x2)) - x5))] kd m6 (zqI kd q)
  exact EvX.ret (r := (0, iw ((iw (2 * x2)) - x5))) (by decide +kernel) rfl ⟨_, rfl, rfl, h⟩
theorem S_Ap_mostBias {d : Nat} {kd : ZK} {m : ZM} {q : Int → ZM → Prop} {v0 : Int} (h : (zobj kd v0 7 ∧ (zobj kd v0 7 ∧ ∃ q1, CtI d M_Ap_mostOf [(2, v0), (2, m v0 8)] kd m q1 ∧ ∀ x2 m3, q1 x2 m3 → (zobj kd v0 7 ∧ (zobj kd (m3 v0 8) 1 ∧ ∃ q4, CtI d M_Game_weightTogether [(2, m3 v0 8)] kd m3 q4 ∧ ∀ x5 m6, q4 x5 m6 → q (iw ((iw (2 * x2)) - x5)) m6))))) : CtI (d + 1) M_Ap_mostBias [(2, v0)] kd m q :=
  Ct.start k_Ap_mostBias (Nat.le_of_ble_eq_true rfl) ⟨1, Or.inr (Or.inl ⟨rfl, rfl⟩)⟩ (T_Ap_mostBias_0 h)
set_option maxRecDepth 20000 in
set_option maxHeartbeats 1000000 in
theorem T_Ap_rowsTwice_0 {d : Nat} {kd : ZK} {m : ZM} {q : Int → ZM → Prop} {v0 : Int} (h : (zobj kd v0 7 ∧ zobj kd (m v0 8) 1 ∧ zobj kd v0 7 ∧ zobj kd (m v0 8) 1 ∧ zobj kd v0 7 ∧ zobj kd (m v0 8) 1 ∧ zobj kd v0 7 ∧ zobj kd (m v0 8) 1 ∧ (Ev (d + 1) M_Ap_rowsTwice 0 0 37 [zJ, (0, iw ((m (m v0 8) 2) * (m (m v0 8) 2))), (0, iw ((m (m v0 8) 0) * (m (m v0 8) 0))), (0, 1), (0, 0)] [] kd m (zqI kd q)))) : Ev (d + 1) M_Ap_rowsTwice 0 0 0 [(2, v0), zJ, zJ, zJ, zJ] [] kd m (zqI kd q) := by
  obtain ⟨o1, o2, o3, o4, o5, o6, o7, o8, h⟩ := h
  refine EvX.blk (pc' := 37) [(.aload_n 0, 0, 0), (.getfield 62, 7, 8), (.getfield 239, 1, 2), (.aload_n 0, 0, 0), (.getfield 62, 7, 8), (.getfield 239, 1, 2), (.imul, 0, 0), (.istore_n 1, 0, 0), (.aload_n 0, 0, 0), (.getfield 62, 7, 8), (.getfield 90, 1, 0), (.aload_n 0, 0, 0), (.getfield 62, 7, 8), (.getfield 90, 1, 0), (.imul, 0, 0), (.istore_n 2, 0, 0), (.iconst 1, 0, 0), (.istore_n 3, 0, 0), (.iconst 0, 0, 0), (.istore 4, 0, 0)] (by decide +kernel) ⟨g_Ap_62, g_Ap_239, g_Ap_62, g_Ap_239, g_Ap_62, g_Ap_90, g_Ap_62, g_Ap_90, trivial⟩ ⟨o1, o2, o3, o4, o5, o6, o7, o8, ?_⟩
  show Ev (d + 1) M_Ap_rowsTwice 0 0 37 [(2, v0), (0, iw ((m (m v0 8) 2) * (m (m v0 8) 2))), (0, iw ((m (m v0 8) 0) * (m (m v0 8) 0))), (0, 1), (0, 0)] [] kd m (zqI kd q)
  exact EvX.weak (ls2 := [zJ, (0, iw ((m (m v0 8) 2) * (m (m v0 8) 2))), (0, iw ((m (m v0 8) 0) * (m (m v0 8) 0))), (0, 1), (0, 0)]) (zwk_of ⟨Or.inl rfl, Or.inr rfl, Or.inr rfl, Or.inr rfl, Or.inr rfl, trivial⟩) h
theorem S_Ap_rowsTwice {d : Nat} {kd : ZK} {m : ZM} {q : Int → ZM → Prop} {v0 : Int} (h : (zobj kd v0 7 ∧ zobj kd (m v0 8) 1 ∧ zobj kd v0 7 ∧ zobj kd (m v0 8) 1 ∧ zobj kd v0 7 ∧ zobj kd (m v0 8) 1 ∧ zobj kd v0 7 ∧ zobj kd (m v0 8) 1 ∧ (Ev (d + 1) M_Ap_rowsTwice 0 0 37 [zJ, (0, iw ((m (m v0 8) 2) * (m (m v0 8) 2))), (0, iw ((m (m v0 8) 0) * (m (m v0 8) 0))), (0, 1), (0, 0)] [] kd m (zqI kd q)))) : CtI (d + 1) M_Ap_rowsTwice [(2, v0)] kd m q :=
  Ct.start k_Ap_rowsTwice (Nat.le_of_ble_eq_true rfl) ⟨1, Or.inr (Or.inl ⟨rfl, rfl⟩)⟩ (T_Ap_rowsTwice_0 h)
set_option maxRecDepth 20000 in
set_option maxHeartbeats 1000000 in
theorem T_Ap_rowsTwice_37 {d : Nat} {kd : ZK} {m : ZM} {q : Int → ZM → Prop} {v1 v2 v3 v4 : Int} (h : ((v2 ≤ v4 → q v3 m) ∧ (¬ v2 ≤ v4 → ((70000 < v3 → q v3 m) ∧ (¬ 70000 < v3 → (Ev (d + 1) M_Ap_rowsTwice 0 0 37 [zJ, (0, v1), (0, v2), (0, iw (v3 * v1)), (0, iw (v4 + 1))] [] kd m (zqI kd q))))))) : Ev (d + 1) M_Ap_rowsTwice 0 0 37 [zJ, (0, v1), (0, v2), (0, v3), (0, v4)] [] kd m (zqI kd q) := by
  refine EvX.blk (pc' := 40) [(.iload 4, 0, 0), (.iload_n 2, 0, 0)] (by decide +kernel) trivial ?_
  show Ev (d + 1) M_Ap_rowsTwice 0 0 40 [zJ, (0, v1), (0, v2), (0, v3), (0, v4)] [(0, v2), (0, v4)] kd m (zqI kd q)
  refine EvX.icmp_ge (off := 20) (tgt := 60) (by decide +kernel) (by decide) (fun hc => ?_) (fun hc => ?_)
  · have h := h.1 hc
    refine EvX.blk (pc' := 61) [(.iload_n 3, 0, 0)] (by decide +kernel) trivial ?_
    show Ev (d + 1) M_Ap_rowsTwice 0 0 61 [zJ, (0, v1), (0, v2), (0, v3), (0, v4)] [(0, v3)] kd m (zqI kd q)
    exact EvX.ret (r := (0, v3)) (by decide +kernel) rfl ⟨_, rfl, rfl, h⟩
  · have h := h.2 hc
    refine EvX.blk (pc' := 47) [(.iload_n 3, 0, 0), (.ldc_w 283, 0, 70000)] (by decide +kernel) ⟨z_Ap_283, trivial⟩ ?_
    show Ev (d + 1) M_Ap_rowsTwice 0 0 47 [zJ, (0, v1), (0, v2), (0, v3), (0, v4)] [(0, 70000), (0, v3)] kd m (zqI kd q)
    refine EvX.icmp_gt (off := 13) (tgt := 60) (by decide +kernel) (by decide) (fun hc => ?_) (fun hc => ?_)
    · have h := h.1 hc
      refine EvX.blk (pc' := 61) [(.iload_n 3, 0, 0)] (by decide +kernel) trivial ?_
      show Ev (d + 1) M_Ap_rowsTwice 0 0 61 [zJ, (0, v1), (0, v2), (0, v3), (0, v4)] [(0, v3)] kd m (zqI kd q)
      exact EvX.ret (r := (0, v3)) (by decide +kernel) rfl ⟨_, rfl, rfl, h⟩
    · have h := h.2 hc
      refine EvX.blk (pc' := 57) [(.iload_n 3, 0, 0), (.iload_n 1, 0, 0), (.imul, 0, 0), (.istore_n 3, 0, 0), (.iinc 4 1, 0, 0)] (by decide +kernel) trivial ?_
      show Ev (d + 1) M_Ap_rowsTwice 0 0 57 [zJ, (0, v1), (0, v2), (0, iw (v3 * v1)), (0, iw (v4 + 1))] [] kd m (zqI kd q)
      refine EvX.goto (off := (-20)) (tgt := 37) (by decide +kernel) (by decide) ?_
      exact h
set_option maxRecDepth 20000 in
set_option maxHeartbeats 1000000 in
theorem T_Ap_isPlayer_0 {d : Nat} {kd : ZK} {m : ZM} {q : Int → ZM → Prop} {v0 : Int} (h : ((v0 = 0 → q 1 m) ∧ (¬ v0 = 0 → ((v0 ≠ 1 → q 0 m) ∧ (¬ v0 ≠ 1 → q 1 m))))) : Ev (d + 1) M_Ap_isPlayer 0 0 0 [(0, v0)] [] kd m (zqI kd q) := by
  refine EvX.blk (pc' := 1) [(.iload_n 0, 0, 0)] (by decide +kernel) trivial ?_
  show Ev (d + 1) M_Ap_isPlayer 0 0 1 [(0, v0)] [(0, v0)] kd m (zqI kd q)
  refine EvX.if_eq (off := 8) (tgt := 9) (by decide +kernel) (by decide) (fun hc => ?_) (fun hc => ?_)
  · have h := h.1 hc
    refine EvX.blk (pc' := 10) [(.iconst 1, 0, 0)] (by decide +kernel) trivial ?_
    show Ev (d + 1) M_Ap_isPlayer 0 0 10 [(0, v0)] [(0, 1)] kd m (zqI kd q)
    refine EvX.goto (off := 4) (tgt := 14) (by decide +kernel) (by decide) ?_
    exact EvX.ret (r := (0, 1)) (by decide +kernel) ⟨rfl, by decide, by decide⟩ ⟨_, rfl, rfl, h⟩
  · have h := h.2 hc
    refine EvX.blk (pc' := 6) [(.iload_n 0, 0, 0), (.iconst 1, 0, 0)] (by decide +kernel) trivial ?_
    show Ev (d + 1) M_Ap_isPlayer 0 0 6 [(0, v0)] [(0, 1), (0, v0)] kd m (zqI kd q)
    refine EvX.icmp_ne (off := 7) (tgt := 13) (by decide +kernel) (by decide) (fun hc => ?_) (fun hc => ?_)
    · have h := h.1 hc
      refine EvX.blk (pc' := 14) [(.iconst 0, 0, 0)] (by decide +kernel) trivial ?_
      show Ev (d + 1) M_Ap_isPlayer 0 0 14 [(0, v0)] [(0, 0)] kd m (zqI kd q)
      exact EvX.ret (r := (0, 0)) (by decide +kernel) ⟨rfl, by decide, by decide⟩ ⟨_, rfl, rfl, h⟩
    · have h := h.2 hc
      refine EvX.blk (pc' := 10) [(.iconst 1, 0, 0)] (by decide +kernel) trivial ?_
      show Ev (d + 1) M_Ap_isPlayer 0 0 10 [(0, v0)] [(0, 1)] kd m (zqI kd q)
      refine EvX.goto (off := 4) (tgt := 14) (by decide +kernel) (by decide) ?_
      exact EvX.ret (r := (0, 1)) (by decide +kernel) ⟨rfl, by decide, by decide⟩ ⟨_, rfl, rfl, h⟩
theorem S_Ap_isPlayer {d : Nat} {kd : ZK} {m : ZM} {q : Int → ZM → Prop} {v0 : Int} (h : ((v0 = 0 → q 1 m) ∧ (¬ v0 = 0 → ((v0 ≠ 1 → q 0 m) ∧ (¬ v0 ≠ 1 → q 1 m))))) : CtI (d + 1) M_Ap_isPlayer [(0, v0)] kd m q :=
  Ct.start k_Ap_isPlayer (Nat.le_of_ble_eq_true rfl) ⟨2, Or.inr (Or.inr (Or.inl ⟨rfl, rfl⟩))⟩ (T_Ap_isPlayer_0 h)
set_option maxRecDepth 20000 in
set_option maxHeartbeats 1000000 in
theorem T_Ap_cellOf_0 {d : Nat} {kd : ZK} {m : ZM} {q : Int → ZM → Prop} {v0 v1 v2 : Int} (h : ((v0 ≠ 0 → q (iw ((iw (v2 * 5)) + v1)) m) ∧ (¬ v0 ≠ 0 → q (iw ((iw (v1 * 5)) + v2)) m))) : Ev (d + 1) M_Ap_cellOf 0 0 0 [(0, v0), (0, v1), (0, v2)] [] kd m (zqI kd q) := by
  refine EvX.blk (pc' := 1) [(.iload_n 0, 0, 0)] (by decide +kernel) trivial ?_
  show Ev (d + 1) M_Ap_cellOf 0 0 1 [(0, v0), (0, v1), (0, v2)] [(0, v0)] kd m (zqI kd q)
  refine EvX.if_ne (off := 11) (tgt := 12) (by decide +kernel) (by decide) (fun hc => ?_) (fun hc => ?_)
  · have h := h.1 hc
    refine EvX.blk (pc' := 17) [(.iload_n 2, 0, 0), (.iconst 5, 0, 0), (.imul, 0, 0), (.iload_n 1, 0, 0), (.iadd, 0, 0)] (by decide +kernel) trivial ?_
    show Ev (d + 1) M_Ap_cellOf 0 0 17 [(0, v0), (0, v1), (0, v2)] [(0, iw ((iw (v2 * 5)) + v1))] kd m (zqI kd q)
    exact EvX.ret (r := (0, iw ((iw (v2 * 5)) + v1))) (by decide +kernel) rfl ⟨_, rfl, rfl, h⟩
  · have h := h.2 hc
    refine EvX.blk (pc' := 9) [(.iload_n 1, 0, 0), (.iconst 5, 0, 0), (.imul, 0, 0), (.iload_n 2, 0, 0), (.iadd, 0, 0)] (by decide +kernel) trivial ?_
    show Ev (d + 1) M_Ap_cellOf 0 0 9 [(0, v0), (0, v1), (0, v2)] [(0, iw ((iw (v1 * 5)) + v2))] kd m (zqI kd q)
    refine EvX.goto (off := 8) (tgt := 17) (by decide +kernel) (by decide) ?_
    exact EvX.ret (r := (0, iw ((iw (v1 * 5)) + v2))) (by decide +kernel) rfl ⟨_, rfl, rfl, h⟩
theorem S_Ap_cellOf {d : Nat} {kd : ZK} {m : ZM} {q : Int → ZM → Prop} {v0 v1 v2 : Int} (h : ((v0 ≠ 0 → q (iw ((iw (v2 * 5)) + v1)) m) ∧ (¬ v0 ≠ 0 → q (iw ((iw (v1 * 5)) + v2)) m))) : CtI (d + 1) M_Ap_cellOf [(0, v0), (0, v1), (0, v2)] kd m q :=
  Ct.start k_Ap_cellOf (Nat.le_of_ble_eq_true rfl) ⟨1, Or.inr (Or.inl ⟨rfl, rfl⟩)⟩ (T_Ap_cellOf_0 h)
set_option maxRecDepth 20000 in
set_option maxHeartbeats 1000000 in
theorem T_Ap_spotOf_0 {d : Nat} {kd : ZK} {m : ZM} {q : Int → ZM → Prop} {v0 v1 v2 v3 v4 : Int} (h : ((v0 ≠ 0 → q (iw ((iw ((iw ((iw ((iw ((iw (v2 * 5)) + v1)) * 4)) + v4)) * 4)) + v3)) m) ∧ (¬ v0 ≠ 0 → q (iw ((iw ((iw ((iw ((iw ((iw (v1 * 5)) + v2)) * 4)) + v3)) * 4)) + v4)) m))) : Ev (d + 1) M_Ap_spotOf 0 0 0 [(0, v0), (0, v1), (0, v2), (0, v3), (0, v4)] [] kd m (zqI kd q) := by
  refine EvX.blk (pc' := 1) [(.iload_n 0, 0, 0)] (by decide +kernel) trivial ?_
  show Ev (d + 1) M_Ap_spotOf 0 0 1 [(0, v0), (0, v1), (0, v2), (0, v3), (0, v4)] [(0, v0)] kd m (zqI kd q)
  refine EvX.if_ne (off := 18) (tgt := 19) (by decide +kernel) (by decide) (fun hc => ?_) (fun hc => ?_)
  · have h := h.1 hc
    refine EvX.blk (pc' := 33) [(.iload_n 2, 0, 0), (.iconst 5, 0, 0), (.imul, 0, 0), (.iload_n 1, 0, 0), (.iadd, 0, 0), (.iconst 4, 0, 0), (.imul, 0, 0), (.iload 4, 0, 0), (.iadd, 0, 0), (.iconst 4, 0, 0), (.imul, 0, 0), (.iload_n 3, 0, 0), (.iadd, 0, 0)] (by decide +kernel) trivial ?_
    show Ev (d + 1) M_Ap_spotOf 0 0 33 [(0, v0), (0, v1), (0, v2), (0, v3), (0, v4)] [(0, iw ((iw ((iw ((iw ((iw ((iw (v2 * 5)) + v1)) * 4)) + v4)) * 4)) + v3))] kd m (zqI kd q)
    exact EvX.ret (r := (0, iw ((iw ((iw ((iw ((iw ((iw (v2 * 5)) + v1)) * 4)) + v4)) * 4)) + v3))) (by decide +kernel) rfl ⟨_, rfl, rfl, h⟩
  · have h := h.2 hc
    refine EvX.blk (pc' := 18) [(.iload_n 1, 0, 0), (.iconst 5, 0, 0), (.imul, 0, 0), (.iload_n 2, 0, 0), (.iadd, 0, 0), (.iconst 4, 0, 0), (.imul, 0, 0), (.iload_n 3, 0, 0), (.iadd, 0, 0), (.iconst 4, 0, 0), (.imul, 0, 0), (.iload 4, 0, 0), (.iadd, 0, 0)] (by decide +kernel) trivial ?_
    show Ev (d + 1) M_Ap_spotOf 0 0 18 [(0, v0), (0, v1), (0, v2), (0, v3), (0, v4)] [(0, iw ((iw ((iw ((iw ((iw ((iw (v1 * 5)) + v2)) * 4)) + v3)) * 4)) + v4))] kd m (zqI kd q)
    exact EvX.ret (r := (0, iw ((iw ((iw ((iw ((iw ((iw (v1 * 5)) + v2)) * 4)) + v3)) * 4)) + v4))) (by decide +kernel) rfl ⟨_, rfl, rfl, h⟩
theorem S_Ap_spotOf {d : Nat} {kd : ZK} {m : ZM} {q : Int → ZM → Prop} {v0 v1 v2 v3 v4 : Int} (h : ((v0 ≠ 0 → q (iw ((iw ((iw ((iw ((iw ((iw (v2 * 5)) + v1)) * 4)) + v4)) * 4)) + v3)) m) ∧ (¬ v0 ≠ 0 → q (iw ((iw ((iw ((iw ((iw ((iw (v1 * 5)) + v2)) * 4)) + v3)) * 4)) + v4)) m))) : CtI (d + 1) M_Ap_spotOf [(0, v0), (0, v1), (0, v2), (0, v3), (0, v4)] kd m q :=
  Ct.start k_Ap_spotOf (Nat.le_of_ble_eq_true rfl) ⟨1, Or.inr (Or.inl ⟨rfl, rfl⟩)⟩ (T_Ap_spotOf_0 h)
set_option maxRecDepth 20000 in
set_option maxHeartbeats 1000000 in
theorem T_Ap_commonDivisor_0 {d : Nat} {kd : ZK} {m : ZM} {q : Int → ZM → Prop} {v0 v1 : Int} (h : (Ev (d + 1) M_Ap_commonDivisor 0 0 7 [zJ, zJ, (0, v0), (0, v1), (0, 0), zJ] [] kd m (zqI kd q))) : Ev (d + 1) M_Ap_commonDivisor 0 0 0 [(0, v0), (0, v1), zJ, zJ, zJ, zJ] [] kd m (zqI kd q) := by
  refine EvX.blk (pc' := 7) [(.iload_n 0, 0, 0), (.istore_n 2, 0, 0), (.iload_n 1, 0, 0), (.istore_n 3, 0, 0), (.iconst 0, 0, 0), (.istore 4, 0, 0)] (by decide +kernel) trivial ?_
  show Ev (d + 1) M_Ap_commonDivisor 0 0 7 [(0, v0), (0, v1), (0, v0), (0, v1), (0, 0), zJ] [] kd m (zqI kd q)
  exact EvX.weak (ls2 := [zJ, zJ, (0, v0), (0, v1), (0, 0), zJ]) (zwk_of ⟨Or.inl rfl, Or.inl rfl, Or.inr rfl, Or.inr rfl, Or.inr rfl, Or.inl rfl, trivial⟩) h
theorem S_Ap_commonDivisor {d : Nat} {kd : ZK} {m : ZM} {q : Int → ZM → Prop} {v0 v1 : Int} (h : (Ev (d + 1) M_Ap_commonDivisor 0 0 7 [zJ, zJ, (0, v0), (0, v1), (0, 0), zJ] [] kd m (zqI kd q))) : CtI (d + 1) M_Ap_commonDivisor [(0, v0), (0, v1)] kd m q :=
  Ct.start k_Ap_commonDivisor (Nat.le_of_ble_eq_true rfl) ⟨1, Or.inr (Or.inl ⟨rfl, rfl⟩)⟩ (T_Ap_commonDivisor_0 h)
set_option maxRecDepth 20000 in
set_option maxHeartbeats 1000000 in
theorem T_Ap_commonDivisor_7 {d : Nat} {kd : ZK} {m : ZM} {q : Int → ZM → Prop} {v2 v3 v4 : Int} (h : ((100 ≤ v4 → ((v2 ≠ 0 → q v2 m) ∧ (¬ v2 ≠ 0 → q 1 m))) ∧ (¬ 100 ≤ v4 → ((v3 = 0 → ((v2 ≠ 0 → q v2 m) ∧ (¬ v2 ≠ 0 → q 1 m))) ∧ (¬ v3 = 0 → (v3 ≠ 0 ∧ (Ev (d + 1) M_Ap_commonDivisor 0 0 7 [zJ, zJ, (0, v3), (0, Int.tmod v2 v3), (0, iw (v4 + 1)), zJ] [] kd m (zqI kd q)))))))) : Ev (d + 1) M_Ap_commonDivisor 0 0 7 [zJ, zJ, (0, v2), (0, v3), (0, v4), zJ] [] kd m (zqI kd q) := by
  refine EvX.blk (pc' := 11) [(.iload 4, 0, 0), (.bipush 100, 0, 0)] (by decide +kernel) trivial ?_
  show Ev (d + 1) M_Ap_commonDivisor 0 0 11 [zJ, zJ, (0, v2), (0, v3), (0, v4), zJ] [(0, 100), (0, v4)] kd m (zqI kd q)
  refine EvX.icmp_ge (off := 23) (tgt := 34) (by decide +kernel) (by decide) (fun hc => ?_) (fun hc => ?_)
  · have h := h.1 hc
    refine EvX.blk (pc' := 35) [(.iload_n 2, 0, 0)] (by decide +kernel) trivial ?_
    show Ev (d + 1) M_Ap_commonDivisor 0 0 35 [zJ, zJ, (0, v2), (0, v3), (0, v4), zJ] [(0, v2)] kd m (zqI kd q)
    refine EvX.if_ne (off := 7) (tgt := 42) (by decide +kernel) (by decide) (fun hc => ?_) (fun hc => ?_)
    · have h := h.1 hc
      refine EvX.blk (pc' := 43) [(.iload_n 2, 0, 0)] (by decide +kernel) trivial ?_
      show Ev (d + 1) M_Ap_commonDivisor 0 0 43 [zJ, zJ, (0, v2), (0, v3), (0, v4), zJ] [(0, v2)] kd m (zqI kd q)
      exact EvX.ret (r := (0, v2)) (by decide +kernel) rfl ⟨_, rfl, rfl, h⟩
    · have h := h.2 hc
      refine EvX.blk (pc' := 39) [(.iconst 1, 0, 0)] (by decide +kernel) trivial ?_
      show Ev (d + 1) M_Ap_commonDivisor 0 0 39 [zJ, zJ, (0, v2), (0, v3), (0, v4), zJ] [(0, 1)] kd m (zqI kd q)
      refine EvX.goto (off := 4) (tgt := 43) (by decide +kernel) (by decide) ?_
      exact EvX.ret (r := (0, 1)) (by decide +kernel) rfl ⟨_, rfl, rfl, h⟩
  · have h := h.2 hc
    refine EvX.blk (pc' := 15) [(.iload_n 3, 0, 0)] (by decide +kernel) trivial ?_
    show Ev (d + 1) M_Ap_commonDivisor 0 0 15 [zJ, zJ, (0, v2), (0, v3), (0, v4), zJ] [(0, v3)] kd m (zqI kd q)
    refine EvX.if_eq (off := 19) (tgt := 34) (by decide +kernel) (by decide) (fun hc => ?_) (fun hc => ?_)
    · have h := h.1 hc
      refine EvX.blk (pc' := 35) [(.iload_n 2, 0, 0)] (by decide +kernel) trivial ?_
      show Ev (d + 1) M_Ap_commonDivisor 0 0 35 [zJ, zJ, (0, v2), (0, v3), (0, v4), zJ] [(0, v2)] kd m (zqI kd q)
      refine EvX.if_ne (off := 7) (tgt := 42) (by decide +kernel) (by decide) (fun hc => ?_) (fun hc => ?_)
      · have h := h.1 hc
        refine EvX.blk (pc' := 43) [(.iload_n 2, 0, 0)] (by decide +kernel) trivial ?_
        show Ev (d + 1) M_Ap_commonDivisor 0 0 43 [zJ, zJ, (0, v2), (0, v3), (0, v4), zJ] [(0, v2)] kd m (zqI kd q)
        exact EvX.ret (r := (0, v2)) (by decide +kernel) rfl ⟨_, rfl, rfl, h⟩
      · have h := h.2 hc
        refine EvX.blk (pc' := 39) [(.iconst 1, 0, 0)] (by decide +kernel) trivial ?_
        show Ev (d + 1) M_Ap_commonDivisor 0 0 39 [zJ, zJ, (0, v2), (0, v3), (0, v4), zJ] [(0, 1)] kd m (zqI kd q)
        refine EvX.goto (off := 4) (tgt := 43) (by decide +kernel) (by decide) ?_
        exact EvX.ret (r := (0, 1)) (by decide +kernel) rfl ⟨_, rfl, rfl, h⟩
    · have h := h.2 hc
      obtain ⟨o1, h⟩ := h
      refine EvX.blk (pc' := 31) [(.iload_n 2, 0, 0), (.iload_n 3, 0, 0), (.irem, 0, 0), (.istore 5, 0, 0), (.iload_n 3, 0, 0), (.istore_n 2, 0, 0), (.iload 5, 0, 0), (.istore_n 3, 0, 0), (.iinc 4 1, 0, 0)] (by decide +kernel) trivial ⟨o1, ?_⟩
      show Ev (d + 1) M_Ap_commonDivisor 0 0 31 [zJ, zJ, (0, v3), (0, Int.tmod v2 v3), (0, iw (v4 + 1)), (0, Int.tmod v2 v3)] [] kd m (zqI kd q)
      refine EvX.goto (off := (-24)) (tgt := 7) (by decide +kernel) (by decide) ?_
      exact EvX.weak (ls2 := [zJ, zJ, (0, v3), (0, Int.tmod v2 v3), (0, iw (v4 + 1)), zJ]) (zwk_of ⟨Or.inl rfl, Or.inl rfl, Or.inr rfl, Or.inr rfl, Or.inr rfl, Or.inl rfl, trivial⟩) h
