/-! TREES of ApartGames$Tape: by program (wip/whole/gen_trees.py) -/
set_option maxRecDepth 20000 in
set_option maxHeartbeats 1000000 in
theorem T_Tape_hasRoomForFive_0 {d : Nat} {kd : ZK} {m : ZM} {q : Int → ZM → Prop} {v0 : Int} (h : (zobj kd v0 6 ∧ ((400 < (iw ((m v0 1) + 20)) → q 0 m) ∧ (¬ 400 < (iw ((m v0 1) + 20)) → q 1 m)))) : Ev (d + 1) M_Tape_hasRoomForFive 0 0 0 [(2, v0)] [] kd m (zqI kd q) := by
  obtain ⟨o1, h⟩ := h
  refine EvX.blk (pc' := 10) [(.aload_n 0, 0, 0), (.getfield 15, 6, 1), (.bipush 20, 0, 0), (.iadd, 0, 0), (.sipush 400, 0, 0)] (by decide +kernel) ⟨g_Tape_15, trivial⟩ ⟨o1, ?_⟩
  show Ev (d + 1) M_Tape_hasRoomForFive 0 0 10 [(2, v0)] [(0, 400), (0, iw ((m v0 1) + 20))] kd m (zqI kd q)
  refine EvX.icmp_gt (off := 7) (tgt := 17) (by decide +kernel) (by decide) (fun hc => ?_) (fun hc => ?_)
  · have h := h.1 hc
    refine EvX.blk (pc' := 18) [(.iconst 0, 0, 0)] (by decide +kernel) trivial ?_
    show Ev (d + 1) M_Tape_hasRoomForFive 0 0 18 [(2, v0)] [(0, 0)] kd m (zqI kd q)
    exact EvX.ret (r := (0, 0)) (by decide +kernel) ⟨rfl, by decide, by decide⟩ ⟨_, rfl, rfl, h⟩
  · have h := h.2 hc
    refine EvX.blk (pc' := 14) [(.iconst 1, 0, 0)] (by decide +kernel) trivial ?_
    show Ev (d + 1) M_Tape_hasRoomForFive 0 0 14 [(2, v0)] [(0, 1)] kd m (zqI kd q)
    refine EvX.goto (off := 4) (tgt := 18) (by decide +kernel) (by decide) ?_
    exact EvX.ret (r := (0, 1)) (by decide +kernel) ⟨rfl, by decide, by decide⟩ ⟨_, rfl, rfl, h⟩
theorem S_Tape_hasRoomForFive {d : Nat} {kd : ZK} {m : ZM} {q : Int → ZM → Prop} {v0 : Int} (h : (zobj kd v0 6 ∧ ((400 < (iw ((m v0 1) + 20)) → q 0 m) ∧ (¬ 400 < (iw ((m v0 1) + 20)) → q 1 m)))) : CtI (d + 1) M_Tape_hasRoomForFive [(2, v0)] kd m q :=
  Ct.start k_Tape_hasRoomForFive (Nat.le_of_ble_eq_true rfl) ⟨2, Or.inr (Or.inr (Or.inl ⟨rfl, rfl⟩))⟩ (T_Tape_hasRoomForFive_0 h)
set_option maxRecDepth 20000 in
set_option maxHeartbeats 1000000 in
theorem T_Tape_addNumber_0 {d : Nat} {kd : ZK} {m : ZM} {q : ZM → Prop} {v0 v1 : Int} (h : (Ev (d + 1) M_Tape_addNumber 0 0 3 [(2, v0), (0, v1), (0, 24)] [] kd m (zqV kd q))) : Ev (d + 1) M_Tape_addNumber 0 0 0 [(2, v0), (0, v1), zJ] [] kd m (zqV kd q) := by
  refine EvX.blk (pc' := 3) [(.bipush 24, 0, 0), (.istore_n 2, 0, 0)] (by decide +kernel) trivial ?_
  show Ev (d + 1) M_Tape_addNumber 0 0 3 [(2, v0), (0, v1), (0, 24)] [] kd m (zqV kd q)
  exact h
theorem S_Tape_addNumber {d : Nat} {kd : ZK} {m : ZM} {q : ZM → Prop} {v0 v1 : Int} (h : (Ev (d + 1) M_Tape_addNumber 0 0 3 [(2, v0), (0, v1), (0, 24)] [] kd m (zqV kd q))) : CtV (d + 1) M_Tape_addNumber [(2, v0), (0, v1)] kd m q :=
  Ct.start k_Tape_addNumber (Nat.le_of_ble_eq_true rfl) ⟨0, Or.inl ⟨rfl, rfl⟩⟩ (T_Tape_addNumber_0 h)
set_option maxRecDepth 20000 in
set_option maxHeartbeats 1000000 in
theorem T_Tape_addNumber_3 {d : Nat} {kd : ZK} {m : ZM} {q : ZM → Prop} {v0 v1 v2 : Int} (h : ((v2 < 0 → q m) ∧ (¬ v2 < 0 → (zobj kd v0 6 ∧ ((400 ≤ (m v0 1) → q m) ∧ (¬ 400 ≤ (m v0 1) → (zobj kd v0 6 ∧ zobj kd v0 6 ∧ zIn kd (m v0 0) 0 (m v0 1) ∧ zobj kd v0 6 ∧ zobj kd v0 6 ∧ (Ev (d + 1) M_Tape_addNumber 0 0 3 [(2, v0), (0, v1), (0, iw (v2 + (-8)))] [] kd (zup (zup m (m v0 0) (m v0 1) (zand (zushr v1 v2) 255)) v0 1 (iw (((zup m (m v0 0) (m v0 1) (zand (zushr v1 v2) 255)) v0 1) + 1))) (zqV kd q))))))))) : Ev (d + 1) M_Tape_addNumber 0 0 3 [(2, v0), (0, v1), (0, v2)] [] kd m (zqV kd q) := by
  refine EvX.blk (pc' := 4) [(.iload_n 2, 0, 0)] (by decide +kernel) trivial ?_
  show Ev (d + 1) M_Tape_addNumber 0 0 4 [(2, v0), (0, v1), (0, v2)] [(0, v2)] kd m (zqV kd q)
  refine EvX.if_lt (off := 45) (tgt := 49) (by decide +kernel) (by decide) (fun hc => ?_) (fun hc => ?_)
  · have h := h.1 hc
    exact EvX.ret (r := zJ) (by decide +kernel) rfl ⟨rfl, rfl, h⟩
  · have h := h.2 hc
    obtain ⟨o1, h⟩ := h
    refine EvX.blk (pc' := 14) [(.aload_n 0, 0, 0), (.getfield 15, 6, 1), (.sipush 400, 0, 0)] (by decide +kernel) ⟨g_Tape_15, trivial⟩ ⟨o1, ?_⟩
    show Ev (d + 1) M_Tape_addNumber 0 0 14 [(2, v0), (0, v1), (0, v2)] [(0, 400), (0, m v0 1)] kd m (zqV kd q)
    refine EvX.icmp_ge (off := 35) (tgt := 49) (by decide +kernel) (by decide) (fun hc => ?_) (fun hc => ?_)
    · have h := h.1 hc
      exact EvX.ret (r := zJ) (by decide +kernel) rfl ⟨rfl, rfl, h⟩
    · have h := h.2 hc
      obtain ⟨o1, o2, o3, o4, o5, h⟩ := h
      refine EvX.blk (pc' := 46) [(.aload_n 0, 0, 0), (.getfield 11, 6, 0), (.aload_n 0, 0, 0), (.getfield 15, 6, 1), (.iload_n 1, 0, 0), (.iload_n 2, 0, 0), (.iushr, 0, 0), (.sipush 255, 0, 0), (.iand, 0, 0), (.iastore, 0, 0), (.aload_n 0, 0, 0), (.dup, 0, 0), (.getfield 15, 6, 1), (.iconst 1, 0, 0), (.iadd, 0, 0), (.putfield 15, 6, 1), (.iinc 2 (-8), 0, 0)] (by decide +kernel) ⟨g_Tape_11, g_Tape_15, g_Tape_15, ⟨g_Tape_15, p_Tape_15⟩, trivial⟩ ⟨o1, o2, o3, o4, rfl, o5, ?_⟩
      show Ev (d + 1) M_Tape_addNumber 0 0 46 [(2, v0), (0, v1), (0, iw (v2 + (-8)))] [] kd (zup (zup m (m v0 0) (m v0 1) (zand (zushr v1 v2) 255)) v0 1 (iw (((zup m (m v0 0) (m v0 1) (zand (zushr v1 v2) 255)) v0 1) + 1))) (zqV kd q)
      refine EvX.goto (off := (-43)) (tgt := 3) (by decide +kernel) (by decide) ?_
      exact h
set_option maxRecDepth 20000 in
set_option maxHeartbeats 1000000 in
theorem T_Tape_readInto_0 {d : Nat} {kd : ZK} {m : ZM} {q : Int → ZM → Prop} {v0 v1 : Int} (h : (zobj kd v0 6 ∧ zobj kd v0 6 ∧ (zobj kd v0 6 ∧ ∃ q1, CtV d M_Tape_readHead [(2, v0), (2, v1)] kd (zup (zup m v0 2 0) v0 3 0) q1 ∧ ∀ m3, q1 m3 → (zobj kd v0 6 ∧ ∃ q4, CtV d M_Tape_skipBlanks [(2, v0)] kd m3 q4 ∧ ∀ m6, q4 m6 → (Ev (d + 1) M_Tape_readInto 0 0 21 [(2, v0), (2, v1), (0, 0)] [] kd m6 (zqI kd q)))))) : Ev (d + 1) M_Tape_readInto 0 0 0 [(2, v0), (2, v1), zJ] [] kd m (zqI kd q) := by
  obtain ⟨o1, o2, h⟩ := h
  refine EvX.blk (pc' := 12) [(.aload_n 0, 0, 0), (.iconst 0, 0, 0), (.putfield 19, 6, 2), (.aload_n 0, 0, 0), (.iconst 0, 0, 0), (.putfield 22, 6, 3), (.aload_n 0, 0, 0), (.aload_n 1, 0, 0)] (by decide +kernel) ⟨⟨g_Tape_19, p_Tape_19⟩, ⟨g_Tape_22, p_Tape_22⟩, trivial⟩ ⟨rfl, o1, rfl, o2, ?_⟩
  show Ev (d + 1) M_Tape_readInto 0 0 12 [(2, v0), (2, v1), zJ] [(2, v1), (2, v0)] kd (zup (zup m v0 2 0) v0 3 0) (zqI kd q)
  obtain ⟨ov, h⟩ := h
  obtain ⟨q1, hq, h⟩ := h
  refine EvX.callV (c := 6) (mc := 0) (ms := 0) (as := [(2, v1)]) (st := []) (by decide +kernel) l_Tape_25 k_Tape_readHead v_Tape_readHead a_Tape_readHead (by decide) (Nat.le_of_ble_eq_true rfl) rfl ov hq (fun r kd1 m3 hr => ?_)
  obtain ⟨rfl, hk, hr⟩ := hr
  subst kd1
  have h := h m3 hr
  show Ev (d + 1) M_Tape_readInto 0 0 15 [(2, v0), (2, v1), zJ] [] kd m3 (zqI kd q)
  refine EvX.blk (pc' := 16) [(.aload_n 0, 0, 0)] (by decide +kernel) trivial ?_
  show Ev (d + 1) M_Tape_readInto 0 0 16 [(2, v0), (2, v1), zJ] [(2, v0)] kd m3 (zqI kd q)
  obtain ⟨ov, h⟩ := h
  obtain ⟨q4, hq, h⟩ := h
  refine EvX.callV (c := 6) (mc := 0) (ms := 0) (as := []) (st := []) (by decide +kernel) l_Tape_29 k_Tape_skipBlanks v_Tape_skipBlanks a_Tape_skipBlanks (by decide) (Nat.le_of_ble_eq_true rfl) rfl ov hq (fun r kd1 m6 hr => ?_)
  obtain ⟨rfl, hk, hr⟩ := hr
  subst kd1
  have h := h m6 hr
  show Ev (d + 1) M_Tape_readInto 0 0 19 [(2, v0), (2, v1), zJ] [] kd m6 (zqI kd q)
  refine EvX.blk (pc' := 21) [(.iconst 0, 0, 0), (.istore_n 2, 0, 0)] (by decide +kernel) trivial ?_
  show Ev (d + 1) M_Tape_readInto 0 0 21 [(2, v0), (2, v1), (0, 0)] [] kd m6 (zqI kd q)
  exact h
theorem S_Tape_readInto {d : Nat} {kd : ZK} {m : ZM} {q : Int → ZM → Prop} {v0 v1 : Int} (h : (zobj kd v0 6 ∧ zobj kd v0 6 ∧ (zobj kd v0 6 ∧ ∃ q1, CtV d M_Tape_readHead [(2, v0), (2, v1)] kd (zup (zup m v0 2 0) v0 3 0) q1 ∧ ∀ m3, q1 m3 → (zobj kd v0 6 ∧ ∃ q4, CtV d M_Tape_skipBlanks [(2, v0)] kd m3 q4 ∧ ∀ m6, q4 m6 → (Ev (d + 1) M_Tape_readInto 0 0 21 [(2, v0), (2, v1), (0, 0)] [] kd m6 (zqI kd q)))))) : CtI (d + 1) M_Tape_readInto [(2, v0), (2, v1)] kd m q :=
  Ct.start k_Tape_readInto (Nat.le_of_ble_eq_true rfl) ⟨1, Or.inr (Or.inl ⟨rfl, rfl⟩)⟩ (T_Tape_readInto_0 h)
set_option maxRecDepth 20000 in
set_option maxHeartbeats 1000000 in
theorem T_Tape_readInto_21 {d : Nat} {kd : ZK} {m : ZM} {q : Int → ZM → Prop} {v0 v1 v2 : Int} (h : ((400 ≤ v2 → (zobj kd v0 6 ∧ q (m v0 3) m)) ∧ (¬ 400 ≤ v2 → (zobj kd v0 6 ∧ (((m v0 3) ≠ 0 → (zobj kd v0 6 ∧ q (m v0 3) m)) ∧ (¬ (m v0 3) ≠ 0 → (zobj kd v0 6 ∧ zobj kd v0 6 ∧ (((m v0 1) ≤ (m v0 2) → (zobj kd v0 6 ∧ q (m v0 3) m)) ∧ (¬ (m v0 1) ≤ (m v0 2) → (zobj kd v0 6 ∧ ∃ q1, CtV d M_Tape_readPart [(2, v0), (2, v1)] kd m q1 ∧ ∀ m3, q1 m3 → (zobj kd v0 6 ∧ ∃ q4, CtV d M_Tape_skipBlanks [(2, v0)] kd m3 q4 ∧ ∀ m6, q4 m6 → (Ev (d + 1) M_Tape_readInto 0 0 21 [(2, v0), (2, v1), (0, iw (v2 + 1))] [] kd m6 (zqI kd q))))))))))))) : Ev (d + 1) M_Tape_readInto 0 0 21 [(2, v0), (2, v1), (0, v2)] [] kd m (zqI kd q) := by
  refine EvX.blk (pc' := 25) [(.iload_n 2, 0, 0), (.sipush 400, 0, 0)] (by decide +kernel) trivial ?_
  show Ev (d + 1) M_Tape_readInto 0 0 25 [(2, v0), (2, v1), (0, v2)] [(0, 400), (0, v2)] kd m (zqI kd q)
  refine EvX.icmp_ge (off := 36) (tgt := 61) (by decide +kernel) (by decide) (fun hc => ?_) (fun hc => ?_)
  · have h := h.1 hc
    obtain ⟨o1, h⟩ := h
    refine EvX.blk (pc' := 65) [(.aload_n 0, 0, 0), (.getfield 22, 6, 3)] (by decide +kernel) ⟨g_Tape_22, trivial⟩ ⟨o1, ?_⟩
    show Ev (d + 1) M_Tape_readInto 0 0 65 [(2, v0), (2, v1), (0, v2)] [(0, m v0 3)] kd m (zqI kd q)
    exact EvX.ret (r := (0, m v0 3)) (by decide +kernel) rfl ⟨_, rfl, rfl, h⟩
  · have h := h.2 hc
    obtain ⟨o1, h⟩ := h
    refine EvX.blk (pc' := 32) [(.aload_n 0, 0, 0), (.getfield 22, 6, 3)] (by decide +kernel) ⟨g_Tape_22, trivial⟩ ⟨o1, ?_⟩
    show Ev (d + 1) M_Tape_readInto 0 0 32 [(2, v0), (2, v1), (0, v2)] [(0, m v0 3)] kd m (zqI kd q)
    refine EvX.if_ne (off := 29) (tgt := 61) (by decide +kernel) (by decide) (fun hc => ?_) (fun hc => ?_)
    · have h := h.1 hc
      obtain ⟨o1, h⟩ := h
      refine EvX.blk (pc' := 65) [(.aload_n 0, 0, 0), (.getfield 22, 6, 3)] (by decide +kernel) ⟨g_Tape_22, trivial⟩ ⟨o1, ?_⟩
      show Ev (d + 1) M_Tape_readInto 0 0 65 [(2, v0), (2, v1), (0, v2)] [(0, m v0 3)] kd m (zqI kd q)
      exact EvX.ret (r := (0, m v0 3)) (by decide +kernel) rfl ⟨_, rfl, rfl, h⟩
    · have h := h.2 hc
      obtain ⟨o1, o2, h⟩ := h
      refine EvX.blk (pc' := 43) [(.aload_n 0, 0, 0), (.getfield 19, 6, 2), (.aload_n 0, 0, 0), (.getfield 15, 6, 1)] (by decide +kernel) ⟨g_Tape_19, g_Tape_15, trivial⟩ ⟨o1, o2, ?_⟩
      show Ev (d + 1) M_Tape_readInto 0 0 43 [(2, v0), (2, v1), (0, v2)] [(0, m v0 1), (0, m v0 2)] kd m (zqI kd q)
      refine EvX.icmp_ge (off := 18) (tgt := 61) (by decide +kernel) (by decide) (fun hc => ?_) (fun hc => ?_)
      · have h := h.1 hc
        obtain ⟨o1, h⟩ := h
        refine EvX.blk (pc' := 65) [(.aload_n 0, 0, 0), (.getfield 22, 6, 3)] (by decide +kernel) ⟨g_Tape_22, trivial⟩ ⟨o1, ?_⟩
        show Ev (d + 1) M_Tape_readInto 0 0 65 [(2, v0), (2, v1), (0, v2)] [(0, m v0 3)] kd m (zqI kd q)
        exact EvX.ret (r := (0, m v0 3)) (by decide +kernel) rfl ⟨_, rfl, rfl, h⟩
      · have h := h.2 hc
        refine EvX.blk (pc' := 48) [(.aload_n 0, 0, 0), (.aload_n 1, 0, 0)] (by decide +kernel) trivial ?_
        show Ev (d + 1) M_Tape_readInto 0 0 48 [(2, v0), (2, v1), (0, v2)] [(2, v1), (2, v0)] kd m (zqI kd q)
        obtain ⟨ov, h⟩ := h
        obtain ⟨q1, hq, h⟩ := h
        refine EvX.callV (c := 6) (mc := 0) (ms := 0) (as := [(2, v1)]) (st := []) (by decide +kernel) l_Tape_32 k_Tape_readPart v_Tape_readPart a_Tape_readPart (by decide) (Nat.le_of_ble_eq_true rfl) rfl ov hq (fun r kd1 m3 hr => ?_)
        obtain ⟨rfl, hk, hr⟩ := hr
        subst kd1
        have h := h m3 hr
        show Ev (d + 1) M_Tape_readInto 0 0 51 [(2, v0), (2, v1), (0, v2)] [] kd m3 (zqI kd q)
        refine EvX.blk (pc' := 52) [(.aload_n 0, 0, 0)] (by decide +kernel) trivial ?_
        show Ev (d + 1) M_Tape_readInto 0 0 52 [(2, v0), (2, v1), (0, v2)] [(2, v0)] kd m3 (zqI kd q)
        obtain ⟨ov, h⟩ := h
        obtain ⟨q4, hq, h⟩ := h
        refine EvX.callV (c := 6) (mc := 0) (ms := 0) (as := []) (st := []) (by decide +kernel) l_Tape_29 k_Tape_skipBlanks v_Tape_skipBlanks a_Tape_skipBlanks (by decide) (Nat.le_of_ble_eq_true rfl) rfl ov hq (fun r kd1 m6 hr => ?_)
        obtain ⟨rfl, hk, hr⟩ := hr
        subst kd1
        have h := h m6 hr
        show Ev (d + 1) M_Tape_readInto 0 0 55 [(2, v0), (2, v1), (0, v2)] [] kd m6 (zqI kd q)
        refine EvX.blk (pc' := 58) [(.iinc 2 1, 0, 0)] (by decide +kernel) trivial ?_
        show Ev (d + 1) M_Tape_readInto 0 0 58 [(2, v0), (2, v1), (0, iw (v2 + 1))] [] kd m6 (zqI kd q)
        refine EvX.goto (off := (-37)) (tgt := 21) (by decide +kernel) (by decide) ?_
        exact h
set_option maxRecDepth 20000 in
set_option maxHeartbeats 1000000 in
theorem T_Tape_readHead_0 {d : Nat} {kd : ZK} {m : ZM} {q : ZM → Prop} {v0 v1 : Int} (h : (zobj kd v0 6 ∧ ∃ q1, CtV d M_Tape_skipBlanks [(2, v0)] kd m q1 ∧ ∀ m3, q1 m3 → (zobj kd v0 6 ∧ ∃ q4, CtI d M_Tape_behindWord [(2, v0)] kd m3 q4 ∧ ∀ x5 m6, q4 x5 m6 → (zobj kd v0 6 ∧ ∃ q7, CtI d M_Tape_isWord [(2, v0), (3, 0), (0, x5)] kd m6 q7 ∧ ∀ x8 m9, q7 x8 m9 → ((x8 ≠ 0 → (zobj kd v0 6 ∧ (zobj kd v0 6 ∧ ∃ q10, CtI d M_Tape_readNumber [(2, v0), (0, 1), (0, 5)] kd (zup m9 v0 2 x5) q10 ∧ ∀ x11 m12, q10 x11 m12 → (zobj kd v0 6 ∧ ∃ q13, CtI d M_Tape_readNumber [(2, v0), (0, 1), (0, 5)] kd m12 q13 ∧ ∀ x14 m15, q13 x14 m15 → (zobj kd v0 6 ∧ ∃ q16, CtI d M_Tape_readNumber [(2, v0), (0, 2), (0, 4)] kd m15 q16 ∧ ∀ x17 m18, q16 x17 m18 → (zobj kd v0 6 ∧ ∃ q19, CtI d M_Tape_readNumber [(2, v0), (0, 2), (0, 4)] kd m18 q19 ∧ ∀ x20 m21, q19 x20 m21 → (zobj kd v0 6 ∧ (((m21 v0 3) ≠ 0 → q m21) ∧ (¬ (m21 v0 3) ≠ 0 → (zobj kd v1 1 ∧ ∃ q22, CtV d M_Game_start [(2, v1), (0, x11), (0, x14), (0, x17), (0, x20)] kd m21 q22 ∧ ∀ m24, q22 m24 → q m24)))))))))) ∧ (¬ x8 ≠ 0 → (zobj kd v0 6 ∧ (zobj kd v0 6 ∧ ∃ q25, CtV d M_Tape_blame [(2, v0), (0, m9 v0 2), (0, 1)] kd m9 q25 ∧ ∀ m27, q25 m27 → q m27)))))))) : Ev (d + 1) M_Tape_readHead 0 0 0 [(2, v0), (2, v1), zJ, zJ, zJ, zJ, zJ] [] kd m (zqV kd q) := by
  refine EvX.blk (pc' := 1) [(.aload_n 0, 0, 0)] (by decide +kernel) trivial ?_
  show Ev (d + 1) M_Tape_readHead 0 0 1 [(2, v0), (2, v1), zJ, zJ, zJ, zJ, zJ] [(2, v0)] kd m (zqV kd q)
  obtain ⟨ov, h⟩ := h
  obtain ⟨q1, hq, h⟩ := h
  refine EvX.callV (c := 6) (mc := 0) (ms := 0) (as := []) (st := []) (by decide +kernel) l_Tape_29 k_Tape_skipBlanks v_Tape_skipBlanks a_Tape_skipBlanks (by decide) (Nat.le_of_ble_eq_true rfl) rfl ov hq (fun r kd1 m3 hr => ?_)
  obtain ⟨rfl, hk, hr⟩ := hr
  subst kd1
  have h := h m3 hr
  show Ev (d + 1) M_Tape_readHead 0 0 4 [(2, v0), (2, v1), zJ, zJ, zJ, zJ, zJ] [] kd m3 (zqV kd q)
  refine EvX.blk (pc' := 5) [(.aload_n 0, 0, 0)] (by decide +kernel) trivial ?_
  show Ev (d + 1) M_Tape_readHead 0 0 5 [(2, v0), (2, v1), zJ, zJ, zJ, zJ, zJ] [(2, v0)] kd m3 (zqV kd q)
  obtain ⟨ov, h⟩ := h
  obtain ⟨q4, hq, h⟩ := h
  refine EvX.callV (c := 6) (mc := 0) (ms := 0) (as := []) (st := []) (by decide +kernel) l_Tape_35 k_Tape_behindWord v_Tape_behindWord a_Tape_behindWord (by decide) (Nat.le_of_ble_eq_true rfl) rfl ov hq (fun r kd1 m6 hr => ?_)
  obtain ⟨x5, rfl, hk, hr⟩ := hr
  subst kd1
  have h := h x5 m6 hr
  show Ev (d + 1) M_Tape_readHead 0 0 8 [(2, v0), (2, v1), zJ, zJ, zJ, zJ, zJ] [(0, x5)] kd m6 (zqV kd q)
  refine EvX.blk (pc' := 13) [(.istore_n 2, 0, 0), (.aload_n 0, 0, 0), (.ldc 39, 1, 0), (.iload_n 2, 0, 0)] (by decide +kernel) ⟨z_Tape_39, trivial⟩ ?_
  show Ev (d + 1) M_Tape_readHead 0 0 13 [(2, v0), (2, v1), (0, x5), zJ, zJ, zJ, zJ] [(0, x5), (3, 0), (2, v0)] kd m6 (zqV kd q)
  obtain ⟨ov, h⟩ := h
  obtain ⟨q7, hq, h⟩ := h
  refine EvX.callV (c := 6) (mc := 0) (ms := 0) (as := [(3, 0), (0, x5)]) (st := []) (by decide +kernel) l_Tape_41 k_Tape_isWord v_Tape_isWord a_Tape_isWord (by decide) (Nat.le_of_ble_eq_true rfl) rfl ov hq (fun r kd1 m9 hr => ?_)
  obtain ⟨x8, rfl, hk, hr⟩ := hr
  subst kd1
  have h := h x8 m9 hr
  show Ev (d + 1) M_Tape_readHead 0 0 16 [(2, v0), (2, v1), (0, x5), zJ, zJ, zJ, zJ] [(0, x8)] kd m9 (zqV kd q)
  refine EvX.if_ne (off := 13) (tgt := 29) (by decide +kernel) (by decide) (fun hc => ?_) (fun hc => ?_)
  · have h := h.1 hc
    obtain ⟨o1, h⟩ := h
    refine EvX.blk (pc' := 37) [(.aload_n 0, 0, 0), (.iload_n 2, 0, 0), (.putfield 19, 6, 2), (.aload_n 0, 0, 0), (.iconst 1, 0, 0), (.iconst 5, 0, 0)] (by decide +kernel) ⟨⟨g_Tape_19, p_Tape_19⟩, trivial⟩ ⟨rfl, o1, ?_⟩
    show Ev (d + 1) M_Tape_readHead 0 0 37 [(2, v0), (2, v1), (0, x5), zJ, zJ, zJ, zJ] [(0, 5), (0, 1), (2, v0)] kd (zup m9 v0 2 x5) (zqV kd q)
    obtain ⟨ov, h⟩ := h
    obtain ⟨q10, hq, h⟩ := h
    refine EvX.callV (c := 6) (mc := 0) (ms := 0) (as := [(0, 1), (0, 5)]) (st := []) (by decide +kernel) l_Tape_49 k_Tape_readNumber v_Tape_readNumber a_Tape_readNumber (by decide) (Nat.le_of_ble_eq_true rfl) rfl ov hq (fun r kd1 m12 hr => ?_)
    obtain ⟨x11, rfl, hk, hr⟩ := hr
    subst kd1
    have h := h x11 m12 hr
    show Ev (d + 1) M_Tape_readHead 0 0 40 [(2, v0), (2, v1), (0, x5), zJ, zJ, zJ, zJ] [(0, x11)] kd m12 (zqV kd q)
    refine EvX.blk (pc' := 44) [(.istore_n 3, 0, 0), (.aload_n 0, 0, 0), (.iconst 1, 0, 0), (.iconst 5, 0, 0)] (by decide +kernel) trivial ?_
    show Ev (d + 1) M_Tape_readHead 0 0 44 [(2, v0), (2, v1), (0, x5), (0, x11), zJ, zJ, zJ] [(0, 5), (0, 1), (2, v0)] kd m12 (zqV kd q)
    obtain ⟨ov, h⟩ := h
    obtain ⟨q13, hq, h⟩ := h
    refine EvX.callV (c := 6) (mc := 0) (ms := 0) (as := [(0, 1), (0, 5)]) (st := []) (by decide +kernel) l_Tape_49 k_Tape_readNumber v_Tape_readNumber a_Tape_readNumber (by decide) (Nat.le_of_ble_eq_true rfl) rfl ov hq (fun r kd1 m15 hr => ?_)
    obtain ⟨x14, rfl, hk, hr⟩ := hr
    subst kd1
    have h := h x14 m15 hr
    show Ev (d + 1) M_Tape_readHead 0 0 47 [(2, v0), (2, v1), (0, x5), (0, x11), zJ, zJ, zJ] [(0, x14)] kd m15 (zqV kd q)
    refine EvX.blk (pc' := 52) [(.istore 4, 0, 0), (.aload_n 0, 0, 0), (.iconst 2, 0, 0), (.iconst 4, 0, 0)] (by decide +kernel) trivial ?_
    show Ev (d + 1) M_Tape_readHead 0 0 52 [(2, v0), (2, v1), (0, x5), (0, x11), (0, x14), zJ, zJ] [(0, 4), (0, 2), (2, v0)] kd m15 (zqV kd q)
    obtain ⟨ov, h⟩ := h
    obtain ⟨q16, hq, h⟩ := h
    refine EvX.callV (c := 6) (mc := 0) (ms := 0) (as := [(0, 2), (0, 4)]) (st := []) (by decide +kernel) l_Tape_49 k_Tape_readNumber v_Tape_readNumber a_Tape_readNumber (by decide) (Nat.le_of_ble_eq_true rfl) rfl ov hq (fun r kd1 m18 hr => ?_)
    obtain ⟨x17, rfl, hk, hr⟩ := hr
    subst kd1
    have h := h x17 m18 hr
    show Ev (d + 1) M_Tape_readHead 0 0 55 [(2, v0), (2, v1), (0, x5), (0, x11), (0, x14), zJ, zJ] [(0, x17)] kd m18 (zqV kd q)
    refine EvX.blk (pc' := 60) [(.istore 5, 0, 0), (.aload_n 0, 0, 0), (.iconst 2, 0, 0), (.iconst 4, 0, 0)] (by decide +kernel) trivial ?_
    show Ev (d + 1) M_Tape_readHead 0 0 60 [(2, v0), (2, v1), (0, x5), (0, x11), (0, x14), (0, x17), zJ] [(0, 4), (0, 2), (2, v0)] kd m18 (zqV kd q)
    obtain ⟨ov, h⟩ := h
    obtain ⟨q19, hq, h⟩ := h
    refine EvX.callV (c := 6) (mc := 0) (ms := 0) (as := [(0, 2), (0, 4)]) (st := []) (by decide +kernel) l_Tape_49 k_Tape_readNumber v_Tape_readNumber a_Tape_readNumber (by decide) (Nat.le_of_ble_eq_true rfl) rfl ov hq (fun r kd1 m21 hr => ?_)
    obtain ⟨x20, rfl, hk, hr⟩ := hr
    subst kd1
    have h := h x20 m21 hr
    show Ev (d + 1) M_Tape_readHead 0 0 63 [(2, v0), (2, v1), (0, x5), (0, x11), (0, x14), (0, x17), zJ] [(0, x20)] kd m21 (zqV kd q)
    obtain ⟨o1, h⟩ := h
    refine EvX.blk (pc' := 69) [(.istore 6, 0, 0), (.aload_n 0, 0, 0), (.getfield 22, 6, 3)] (by decide +kernel) ⟨g_Tape_22, trivial⟩ ⟨o1, ?_⟩
    show Ev (d + 1) M_Tape_readHead 0 0 69 [(2, v0), (2, v1), (0, x5), (0, x11), (0, x14), (0, x17), (0, x20)] [(0, m21 v0 3)] kd m21 (zqV kd q)
    refine EvX.if_ne (off := 14) (tgt := 83) (by decide +kernel) (by decide) (fun hc => ?_) (fun hc => ?_)
    · have h := h.1 hc
      exact EvX.ret (r := zJ) (by decide +kernel) rfl ⟨rfl, rfl, h⟩
    · have h := h.2 hc
      refine EvX.blk (pc' := 80) [(.aload_n 1, 0, 0), (.iload_n 3, 0, 0), (.iload 4, 0, 0), (.iload 5, 0, 0), (.iload 6, 0, 0)] (by decide +kernel) trivial ?_
      show Ev (d + 1) M_Tape_readHead 0 0 80 [(2, v0), (2, v1), (0, x5), (0, x11), (0, x14), (0, x17), (0, x20)] [(0, x20), (0, x17), (0, x14), (0, x11), (2, v1)] kd m21 (zqV kd q)
      obtain ⟨ov, h⟩ := h
      obtain ⟨q22, hq, h⟩ := h
      refine EvX.callV (c := 1) (mc := 0) (ms := 0) (as := [(0, x11), (0, x14), (0, x17), (0, x20)]) (st := []) (by decide +kernel) l_Tape_53 k_Game_start v_Game_start a_Game_start (by decide) (Nat.le_of_ble_eq_true rfl) rfl ov hq (fun r kd1 m24 hr => ?_)
      obtain ⟨rfl, hk, hr⟩ := hr
      subst kd1
      have h := h m24 hr
      show Ev (d + 1) M_Tape_readHead 0 0 83 [(2, v0), (2, v1), (0, x5), (0, x11), (0, x14), (0, x17), (0, x20)] [] kd m24 (zqV kd q)
      exact EvX.ret (r := zJ) (by decide +kernel) rfl ⟨rfl, rfl, h⟩
  · have h := h.2 hc
    obtain ⟨o1, h⟩ := h
    refine EvX.blk (pc' := 25) [(.aload_n 0, 0, 0), (.aload_n 0, 0, 0), (.getfield 19, 6, 2), (.iconst 1, 0, 0)] (by decide +kernel) ⟨g_Tape_19, trivial⟩ ⟨o1, ?_⟩
    show Ev (d + 1) M_Tape_readHead 0 0 25 [(2, v0), (2, v1), (0, x5), zJ, zJ, zJ, zJ] [(0, 1), (0, m9 v0 2), (2, v0)] kd m9 (zqV kd q)
    obtain ⟨ov, h⟩ := h
    obtain ⟨q25, hq, h⟩ := h
    refine EvX.callV (c := 6) (mc := 0) (ms := 0) (as := [(0, m9 v0 2), (0, 1)]) (st := []) (by decide +kernel) l_Tape_45 k_Tape_blame v_Tape_blame a_Tape_blame (by decide) (Nat.le_of_ble_eq_true rfl) rfl ov hq (fun r kd1 m27 hr => ?_)
    obtain ⟨rfl, hk, hr⟩ := hr
    subst kd1
    have h := h m27 hr
    show Ev (d + 1) M_Tape_readHead 0 0 28 [(2, v0), (2, v1), (0, x5), zJ, zJ, zJ, zJ] [] kd m27 (zqV kd q)
    exact EvX.ret (r := zJ) (by decide +kernel) rfl ⟨rfl, rfl, h⟩
theorem S_Tape_readHead {d : Nat} {kd : ZK} {m : ZM} {q : ZM → Prop} {v0 v1 : Int} (h : (zobj kd v0 6 ∧ ∃ q1, CtV d M_Tape_skipBlanks [(2, v0)] kd m q1 ∧ ∀ m3, q1 m3 → (zobj kd v0 6 ∧ ∃ q4, CtI d M_Tape_behindWord [(2, v0)] kd m3 q4 ∧ ∀ x5 m6, q4 x5 m6 → (zobj kd v0 6 ∧ ∃ q7, CtI d M_Tape_isWord [(2, v0), (3, 0), (0, x5)] kd m6 q7 ∧ ∀ x8 m9, q7 x8 m9 → ((x8 ≠ 0 → (zobj kd v0 6 ∧ (zobj kd v0 6 ∧ ∃ q10, CtI d M_Tape_readNumber [(2, v0), (0, 1), (0, 5)] kd (zup m9 v0 2 x5) q10 ∧ ∀ x11 m12, q10 x11 m12 → (zobj kd v0 6 ∧ ∃ q13, CtI d M_Tape_readNumber [(2, v0), (0, 1), (0, 5)] kd m12 q13 ∧ ∀ x14 m15, q13 x14 m15 → (zobj kd v0 6 ∧ ∃ q16, CtI d M_Tape_readNumber [(2, v0), (0, 2), (0, 4)] kd m15 q16 ∧ ∀ x17 m18, q16 x17 m18 → (zobj kd v0 6 ∧ ∃ q19, CtI d M_Tape_readNumber [(2, v0), (0, 2), (0, 4)] kd m18 q19 ∧ ∀ x20 m21, q19 x20 m21 → (zobj kd v0 6 ∧ (((m21 v0 3) ≠ 0 → q m21) ∧ (¬ (m21 v0 3) ≠ 0 → (zobj kd v1 1 ∧ ∃ q22, CtV d M_Game_start [(2, v1), (0, x11), (0, x14), (0, x17), (0, x20)] kd m21 q22 ∧ ∀ m24, q22 m24 → q m24)))))))))) ∧ (¬ x8 ≠ 0 → (zobj kd v0 6 ∧ (zobj kd v0 6 ∧ ∃ q25, CtV d M_Tape_blame [(2, v0), (0, m9 v0 2), (0, 1)] kd m9 q25 ∧ ∀ m27, q25 m27 → q m27)))))))) : CtV (d + 1) M_Tape_readHead [(2, v0), (2, v1)] kd m q :=
  Ct.start k_Tape_readHead (Nat.le_of_ble_eq_true rfl) ⟨0, Or.inl ⟨rfl, rfl⟩⟩ (T_Tape_readHead_0 h)
set_option maxRecDepth 20000 in
set_option maxHeartbeats 1000000 in
theorem T_Tape_readPart_0 {d : Nat} {kd : ZK} {m : ZM} {q : ZM → Prop} {v0 v1 : Int} (h : (zobj kd v0 6 ∧ zobj kd v0 6 ∧ (((m v0 1) ≤ (m v0 2) → (zobj kd v0 6 ∧ (zobj kd v0 6 ∧ ∃ q1, CtV d M_Tape_blame [(2, v0), (0, m v0 2), (0, 1)] kd m q1 ∧ ∀ m3, q1 m3 → q m3))) ∧ (¬ (m v0 1) ≤ (m v0 2) → (zobj kd v0 6 ∧ zobj kd v0 6 ∧ zIn kd (m v0 0) 0 (m v0 2) ∧ (((m (m v0 0) (m v0 2)) = 59 → (zobj kd v0 6 ∧ zobj kd v0 6 ∧ (zobj kd v0 6 ∧ ∃ q4, CtV d M_Tape_skipBlanks [(2, v0)] kd (zup m v0 2 (iw ((m v0 2) + 1))) q4 ∧ ∀ m6, q4 m6 → (zobj kd v0 6 ∧ ∃ q7, CtI d M_Tape_behindWord [(2, v0)] kd m6 q7 ∧ ∀ x8 m9, q7 x8 m9 → (zobj kd v0 6 ∧ ∃ q10, CtI d M_Tape_kindOfWord [(2, v0), (0, x8)] kd m9 q10 ∧ ∀ x11 m12, q10 x11 m12 → ((x11 ≠ 0 → (zobj kd v0 6 ∧ zobj kd v1 1 ∧ (zobj kd v0 6 ∧ ∃ q13, CtI d M_Tape_readNumber [(2, v0), (0, 0), (0, iw (((zup m12 v0 2 x8) v1 0) - 1))] kd (zup m12 v0 2 x8) q13 ∧ ∀ x14 m15, q13 x14 m15 → (zobj kd v1 1 ∧ (zobj kd v0 6 ∧ ∃ q16, CtI d M_Tape_readNumber [(2, v0), (0, 0), (0, iw ((m15 v1 1) - 1))] kd m15 q16 ∧ ∀ x17 m18, q16 x17 m18 → ((x11 ≠ 1 → ((x11 = 2 → (zobj kd v0 6 ∧ ∃ q19, CtV d M_Tape_readSpot [(2, v0), (2, v1), (0, x11), (0, x14), (0, x17)] kd m18 q19 ∧ ∀ m21, q19 m21 → q m21)) ∧ (¬ x11 = 2 → ((x11 ≠ 7 → (zobj kd v0 6 ∧ (((m18 v0 3) ≠ 0 → q m18) ∧ (¬ (m18 v0 3) ≠ 0 → (∃ q22, CtV d M_Tape_winWhere [(2, v1), (0, x11), (0, x14), (0, x17)] kd m18 q22 ∧ ∀ m24, q22 m24 → q m24))))) ∧ (¬ x11 ≠ 7 → (zobj kd v0 6 ∧ ∃ q25, CtV d M_Tape_readSpot [(2, v0), (2, v1), (0, x11), (0, x14), (0, x17)] kd m18 q25 ∧ ∀ m27, q25 m27 → q m27)))))) ∧ (¬ x11 ≠ 1 → (zobj kd v0 6 ∧ ∃ q28, CtV d M_Tape_readWeight [(2, v0), (2, v1), (0, x14), (0, x17)] kd m18 q28 ∧ ∀ m30, q28 m30 → q m30)))))))) ∧ (¬ x11 ≠ 0 → (zobj kd v0 6 ∧ (zobj kd v0 6 ∧ ∃ q31, CtV d M_Tape_blame [(2, v0), (0, m12 v0 2), (0, 1)] kd m12 q31 ∧ ∀ m33, q31 m33 → q m33))))))))) ∧ (¬ (m (m v0 0) (m v0 2)) = 59 → (zobj kd v0 6 ∧ (zobj kd v0 6 ∧ ∃ q34, CtV d M_Tape_blame [(2, v0), (0, m v0 2), (0, 1)] kd m q34 ∧ ∀ m36, q34 m36 → q m36))))))))) : Ev (d + 1) M_Tape_readPart 0 0 0 [(2, v0), (2, v1), zJ, zJ, zJ, zJ] [] kd m (zqV kd q) := by
  obtain ⟨o1, o2, h⟩ := h
  refine EvX.blk (pc' := 8) [(.aload_n 0, 0, 0), (.getfield 19, 6, 2), (.aload_n 0, 0, 0), (.getfield 15, 6, 1)] (by decide +kernel) ⟨g_Tape_19, g_Tape_15, trivial⟩ ⟨o1, o2, ?_⟩
  show Ev (d + 1) M_Tape_readPart 0 0 8 [(2, v0), (2, v1), zJ, zJ, zJ, zJ] [(0, m v0 1), (0, m v0 2)] kd m (zqV kd q)
  refine EvX.icmp_ge (off := 17) (tgt := 25) (by decide +kernel) (by decide) (fun hc => ?_) (fun hc => ?_)
  · have h := h.1 hc
    obtain ⟨o1, h⟩ := h
    refine EvX.blk (pc' := 31) [(.aload_n 0, 0, 0), (.aload_n 0, 0, 0), (.getfield 19, 6, 2), (.iconst 1, 0, 0)] (by decide +kernel) ⟨g_Tape_19, trivial⟩ ⟨o1, ?_⟩
    show Ev (d + 1) M_Tape_readPart 0 0 31 [(2, v0), (2, v1), zJ, zJ, zJ, zJ] [(0, 1), (0, m v0 2), (2, v0)] kd m (zqV kd q)
    obtain ⟨ov, h⟩ := h
    obtain ⟨q1, hq, h⟩ := h
    refine EvX.callV (c := 6) (mc := 0) (ms := 0) (as := [(0, m v0 2), (0, 1)]) (st := []) (by decide +kernel) l_Tape_45 k_Tape_blame v_Tape_blame a_Tape_blame (by decide) (Nat.le_of_ble_eq_true rfl) rfl ov hq (fun r kd1 m3 hr => ?_)
    obtain ⟨rfl, hk, hr⟩ := hr
    subst kd1
    have h := h m3 hr
    show Ev (d + 1) M_Tape_readPart 0 0 34 [(2, v0), (2, v1), zJ, zJ, zJ, zJ] [] kd m3 (zqV kd q)
    exact EvX.ret (r := zJ) (by decide +kernel) rfl ⟨rfl, rfl, h⟩
  · have h := h.2 hc
    obtain ⟨o1, o2, o3, h⟩ := h
    refine EvX.blk (pc' := 22) [(.aload_n 0, 0, 0), (.getfield 11, 6, 0), (.aload_n 0, 0, 0), (.getfield 19, 6, 2), (.iaload, 0, 0), (.bipush 59, 0, 0)] (by decide +kernel) ⟨g_Tape_11, g_Tape_19, trivial⟩ ⟨o1, o2, o3, ?_⟩
    show Ev (d + 1) M_Tape_readPart 0 0 22 [(2, v0), (2, v1), zJ, zJ, zJ, zJ] [(0, 59), (0, m (m v0 0) (m v0 2))] kd m (zqV kd q)
    refine EvX.icmp_eq (off := 13) (tgt := 35) (by decide +kernel) (by decide) (fun hc => ?_) (fun hc => ?_)
    · have h := h.1 hc
      obtain ⟨o1, o2, h⟩ := h
      refine EvX.blk (pc' := 46) [(.aload_n 0, 0, 0), (.dup, 0, 0), (.getfield 19, 6, 2), (.iconst 1, 0, 0), (.iadd, 0, 0), (.putfield 19, 6, 2), (.aload_n 0, 0, 0)] (by decide +kernel) ⟨g_Tape_19, ⟨g_Tape_19, p_Tape_19⟩, trivial⟩ ⟨o1, rfl, o2, ?_⟩
      show Ev (d + 1) M_Tape_readPart 0 0 46 [(2, v0), (2, v1), zJ, zJ, zJ, zJ] [(2, v0)] kd (zup m v0 2 (iw ((m v0 2) + 1))) (zqV kd q)
      obtain ⟨ov, h⟩ := h
      obtain ⟨q4, hq, h⟩ := h
      refine EvX.callV (c := 6) (mc := 0) (ms := 0) (as := []) (st := []) (by decide +kernel) l_Tape_29 k_Tape_skipBlanks v_Tape_skipBlanks a_Tape_skipBlanks (by decide) (Nat.le_of_ble_eq_true rfl) rfl ov hq (fun r kd1 m6 hr => ?_)
      obtain ⟨rfl, hk, hr⟩ := hr
      subst kd1
      have h := h m6 hr
      show Ev (d + 1) M_Tape_readPart 0 0 49 [(2, v0), (2, v1), zJ, zJ, zJ, zJ] [] kd m6 (zqV kd q)
      refine EvX.blk (pc' := 50) [(.aload_n 0, 0, 0)] (by decide +kernel) trivial ?_
      show Ev (d + 1) M_Tape_readPart 0 0 50 [(2, v0), (2, v1), zJ, zJ, zJ, zJ] [(2, v0)] kd m6 (zqV kd q)
      obtain ⟨ov, h⟩ := h
      obtain ⟨q7, hq, h⟩ := h
      refine EvX.callV (c := 6) (mc := 0) (ms := 0) (as := []) (st := []) (by decide +kernel) l_Tape_35 k_Tape_behindWord v_Tape_behindWord a_Tape_behindWord (by decide) (Nat.le_of_ble_eq_true rfl) rfl ov hq (fun r kd1 m9 hr => ?_)
      obtain ⟨x8, rfl, hk, hr⟩ := hr
      subst kd1
      have h := h x8 m9 hr
      show Ev (d + 1) M_Tape_readPart 0 0 53 [(2, v0), (2, v1), zJ, zJ, zJ, zJ] [(0, x8)] kd m9 (zqV kd q)
      refine EvX.blk (pc' := 56) [(.istore_n 2, 0, 0), (.aload_n 0, 0, 0), (.iload_n 2, 0, 0)] (by decide +kernel) trivial ?_
      show Ev (d + 1) M_Tape_readPart 0 0 56 [(2, v0), (2, v1), (0, x8), zJ, zJ, zJ] [(0, x8), (2, v0)] kd m9 (zqV kd q)
      obtain ⟨ov, h⟩ := h
      obtain ⟨q10, hq, h⟩ := h
      refine EvX.callV (c := 6) (mc := 0) (ms := 0) (as := [(0, x8)]) (st := []) (by decide +kernel) l_Tape_59 k_Tape_kindOfWord v_Tape_kindOfWord a_Tape_kindOfWord (by decide) (Nat.le_of_ble_eq_true rfl) rfl ov hq (fun r kd1 m12 hr => ?_)
      obtain ⟨x11, rfl, hk, hr⟩ := hr
      subst kd1
      have h := h x11 m12 hr
      show Ev (d + 1) M_Tape_readPart 0 0 59 [(2, v0), (2, v1), (0, x8), zJ, zJ, zJ] [(0, x11)] kd m12 (zqV kd q)
      refine EvX.blk (pc' := 61) [(.istore_n 3, 0, 0), (.iload_n 3, 0, 0)] (by decide +kernel) trivial ?_
      show Ev (d + 1) M_Tape_readPart 0 0 61 [(2, v0), (2, v1), (0, x8), (0, x11), zJ, zJ] [(0, x11)] kd m12 (zqV kd q)
      refine EvX.if_ne (off := 13) (tgt := 74) (by decide +kernel) (by decide) (fun hc => ?_) (fun hc => ?_)
      · have h := h.1 hc
        obtain ⟨o1, o2, h⟩ := h
        refine EvX.blk (pc' := 87) [(.aload_n 0, 0, 0), (.iload_n 2, 0, 0), (.putfield 19, 6, 2), (.aload_n 0, 0, 0), (.iconst 0, 0, 0), (.aload_n 1, 0, 0), (.getfield 63, 1, 0), (.iconst 1, 0, 0), (.isub, 0, 0)] (by decide +kernel) ⟨⟨g_Tape_19, p_Tape_19⟩, g_Tape_63, trivial⟩ ⟨rfl, o1, o2, ?_⟩
        show Ev (d + 1) M_Tape_readPart 0 0 87 [(2, v0), (2, v1), (0, x8), (0, x11), zJ, zJ] [(0, iw (((zup m12 v0 2 x8) v1 0) - 1)), (0, 0), (2, v0)] kd (zup m12 v0 2 x8) (zqV kd q)
        obtain ⟨ov, h⟩ := h
        obtain ⟨q13, hq, h⟩ := h
        refine EvX.callV (c := 6) (mc := 0) (ms := 0) (as := [(0, 0), (0, iw (((zup m12 v0 2 x8) v1 0) - 1))]) (st := []) (by decide +kernel) l_Tape_49 k_Tape_readNumber v_Tape_readNumber a_Tape_readNumber (by decide) (Nat.le_of_ble_eq_true rfl) rfl ov hq (fun r kd1 m15 hr => ?_)
        obtain ⟨x14, rfl, hk, hr⟩ := hr
        subst kd1
        have h := h x14 m15 hr
        show Ev (d + 1) M_Tape_readPart 0 0 90 [(2, v0), (2, v1), (0, x8), (0, x11), zJ, zJ] [(0, x14)] kd m15 (zqV kd q)
        obtain ⟨o1, h⟩ := h
        refine EvX.blk (pc' := 100) [(.istore 4, 0, 0), (.aload_n 0, 0, 0), (.iconst 0, 0, 0), (.aload_n 1, 0, 0), (.getfield 66, 1, 1), (.iconst 1, 0, 0), (.isub, 0, 0)] (by decide +kernel) ⟨g_Tape_66, trivial⟩ ⟨o1, ?_⟩
        show Ev (d + 1) M_Tape_readPart 0 0 100 [(2, v0), (2, v1), (0, x8), (0, x11), (0, x14), zJ] [(0, iw ((m15 v1 1) - 1)), (0, 0), (2, v0)] kd m15 (zqV kd q)
        obtain ⟨ov, h⟩ := h
        obtain ⟨q16, hq, h⟩ := h
        refine EvX.callV (c := 6) (mc := 0) (ms := 0) (as := [(0, 0), (0, iw ((m15 v1 1) - 1))]) (st := []) (by decide +kernel) l_Tape_49 k_Tape_readNumber v_Tape_readNumber a_Tape_readNumber (by decide) (Nat.le_of_ble_eq_true rfl) rfl ov hq (fun r kd1 m18 hr => ?_)
        obtain ⟨x17, rfl, hk, hr⟩ := hr
        subst kd1
        have h := h x17 m18 hr
        show Ev (d + 1) M_Tape_readPart 0 0 103 [(2, v0), (2, v1), (0, x8), (0, x11), (0, x14), zJ] [(0, x17)] kd m18 (zqV kd q)
        refine EvX.blk (pc' := 107) [(.istore 5, 0, 0), (.iload_n 3, 0, 0), (.iconst 1, 0, 0)] (by decide +kernel) trivial ?_
        show Ev (d + 1) M_Tape_readPart 0 0 107 [(2, v0), (2, v1), (0, x8), (0, x11), (0, x14), (0, x17)] [(0, 1), (0, x11)] kd m18 (zqV kd q)
        refine EvX.icmp_ne (off := 15) (tgt := 122) (by decide +kernel) (by decide) (fun hc => ?_) (fun hc => ?_)
        · have h := h.1 hc
          refine EvX.blk (pc' := 124) [(.iload_n 3, 0, 0), (.iconst 2, 0, 0)] (by decide +kernel) trivial ?_
          show Ev (d + 1) M_Tape_readPart 0 0 124 [(2, v0), (2, v1), (0, x8), (0, x11), (0, x14), (0, x17)] [(0, 2), (0, x11)] kd m18 (zqV kd q)
          refine EvX.icmp_eq (off := 9) (tgt := 133) (by decide +kernel) (by decide) (fun hc => ?_) (fun hc => ?_)
          · have h := h.1 hc
            refine EvX.blk (pc' := 140) [(.aload_n 0, 0, 0), (.aload_n 1, 0, 0), (.iload_n 3, 0, 0), (.iload 4, 0, 0), (.iload 5, 0, 0)] (by decide +kernel) trivial ?_
            show Ev (d + 1) M_Tape_readPart 0 0 140 [(2, v0), (2, v1), (0, x8), (0, x11), (0, x14), (0, x17)] [(0, x17), (0, x14), (0, x11), (2, v1), (2, v0)] kd m18 (zqV kd q)
            obtain ⟨ov, h⟩ := h
            obtain ⟨q19, hq, h⟩ := h
            refine EvX.callV (c := 6) (mc := 0) (ms := 0) (as := [(2, v1), (0, x11), (0, x14), (0, x17)]) (st := []) (by decide +kernel) l_Tape_73 k_Tape_readSpot v_Tape_readSpot a_Tape_readSpot (by decide) (Nat.le_of_ble_eq_true rfl) rfl ov hq (fun r kd1 m21 hr => ?_)
            obtain ⟨rfl, hk, hr⟩ := hr
            subst kd1
            have h := h m21 hr
            show Ev (d + 1) M_Tape_readPart 0 0 143 [(2, v0), (2, v1), (0, x8), (0, x11), (0, x14), (0, x17)] [] kd m21 (zqV kd q)
            refine EvX.goto (off := 19) (tgt := 162) (by decide +kernel) (by decide) ?_
            exact EvX.ret (r := zJ) (by decide +kernel) rfl ⟨rfl, rfl, h⟩
          · have h := h.2 hc
            refine EvX.blk (pc' := 130) [(.iload_n 3, 0, 0), (.bipush 7, 0, 0)] (by decide +kernel) trivial ?_
            show Ev (d + 1) M_Tape_readPart 0 0 130 [(2, v0), (2, v1), (0, x8), (0, x11), (0, x14), (0, x17)] [(0, 7), (0, x11)] kd m18 (zqV kd q)
            refine EvX.icmp_ne (off := 16) (tgt := 146) (by decide +kernel) (by decide) (fun hc => ?_) (fun hc => ?_)
            · have h := h.1 hc
              obtain ⟨o1, h⟩ := h
              refine EvX.blk (pc' := 150) [(.aload_n 0, 0, 0), (.getfield 22, 6, 3)] (by decide +kernel) ⟨g_Tape_22, trivial⟩ ⟨o1, ?_⟩
              show Ev (d + 1) M_Tape_readPart 0 0 150 [(2, v0), (2, v1), (0, x8), (0, x11), (0, x14), (0, x17)] [(0, m18 v0 3)] kd m18 (zqV kd q)
              refine EvX.if_ne (off := 12) (tgt := 162) (by decide +kernel) (by decide) (fun hc => ?_) (fun hc => ?_)
              · have h := h.1 hc
                exact EvX.ret (r := zJ) (by decide +kernel) rfl ⟨rfl, rfl, h⟩
              · have h := h.2 hc
                refine EvX.blk (pc' := 159) [(.aload_n 1, 0, 0), (.iload_n 3, 0, 0), (.iload 4, 0, 0), (.iload 5, 0, 0)] (by decide +kernel) trivial ?_
                show Ev (d + 1) M_Tape_readPart 0 0 159 [(2, v0), (2, v1), (0, x8), (0, x11), (0, x14), (0, x17)] [(0, x17), (0, x14), (0, x11), (2, v1)] kd m18 (zqV kd q)
                obtain ⟨q22, hq, h⟩ := h
                refine EvX.callS (mc := 0) (ms := 0) (as := [(2, v1), (0, x11), (0, x14), (0, x17)]) (st := []) (by decide +kernel) l_Tape_77 k_Tape_winWhere s_Tape_winWhere a_Tape_winWhere (by decide) (Nat.le_of_ble_eq_true rfl) hq (fun r kd1 m24 hr => ?_)
                obtain ⟨rfl, hk, hr⟩ := hr
                subst kd1
                have h := h m24 hr
                show Ev (d + 1) M_Tape_readPart 0 0 162 [(2, v0), (2, v1), (0, x8), (0, x11), (0, x14), (0, x17)] [] kd m24 (zqV kd q)
                exact EvX.ret (r := zJ) (by decide +kernel) rfl ⟨rfl, rfl, h⟩
            · have h := h.2 hc
              refine EvX.blk (pc' := 140) [(.aload_n 0, 0, 0), (.aload_n 1, 0, 0), (.iload_n 3, 0, 0), (.iload 4, 0, 0), (.iload 5, 0, 0)] (by decide +kernel) trivial ?_
              show Ev (d + 1) M_Tape_readPart 0 0 140 [(2, v0), (2, v1), (0, x8), (0, x11), (0, x14), (0, x17)] [(0, x17), (0, x14), (0, x11), (2, v1), (2, v0)] kd m18 (zqV kd q)
              obtain ⟨ov, h⟩ := h
              obtain ⟨q25, hq, h⟩ := h
              refine EvX.callV (c := 6) (mc := 0) (ms := 0) (as := [(2, v1), (0, x11), (0, x14), (0, x17)]) (st := []) (by decide +kernel) l_Tape_73 k_Tape_readSpot v_Tape_readSpot a_Tape_readSpot (by decide) (Nat.le_of_ble_eq_true rfl) rfl ov hq (fun r kd1 m27 hr => ?_)
              obtain ⟨rfl, hk, hr⟩ := hr
              subst kd1
              have h := h m27 hr
              show Ev (d + 1) M_Tape_readPart 0 0 143 [(2, v0), (2, v1), (0, x8), (0, x11), (0, x14), (0, x17)] [] kd m27 (zqV kd q)
              refine EvX.goto (off := 19) (tgt := 162) (by decide +kernel) (by decide) ?_
              exact EvX.ret (r := zJ) (by decide +kernel) rfl ⟨rfl, rfl, h⟩
        · have h := h.2 hc
          refine EvX.blk (pc' := 116) [(.aload_n 0, 0, 0), (.aload_n 1, 0, 0), (.iload 4, 0, 0), (.iload 5, 0, 0)] (by decide +kernel) trivial ?_
          show Ev (d + 1) M_Tape_readPart 0 0 116 [(2, v0), (2, v1), (0, x8), (0, x11), (0, x14), (0, x17)] [(0, x17), (0, x14), (2, v1), (2, v0)] kd m18 (zqV kd q)
          obtain ⟨ov, h⟩ := h
          obtain ⟨q28, hq, h⟩ := h
          refine EvX.callV (c := 6) (mc := 0) (ms := 0) (as := [(2, v1), (0, x14), (0, x17)]) (st := []) (by decide +kernel) l_Tape_69 k_Tape_readWeight v_Tape_readWeight a_Tape_readWeight (by decide) (Nat.le_of_ble_eq_true rfl) rfl ov hq (fun r kd1 m30 hr => ?_)
          obtain ⟨rfl, hk, hr⟩ := hr
          subst kd1
          have h := h m30 hr
          show Ev (d + 1) M_Tape_readPart 0 0 119 [(2, v0), (2, v1), (0, x8), (0, x11), (0, x14), (0, x17)] [] kd m30 (zqV kd q)
          refine EvX.goto (off := 43) (tgt := 162) (by decide +kernel) (by decide) ?_
          exact EvX.ret (r := zJ) (by decide +kernel) rfl ⟨rfl, rfl, h⟩
      · have h := h.2 hc
        obtain ⟨o1, h⟩ := h
        refine EvX.blk (pc' := 70) [(.aload_n 0, 0, 0), (.aload_n 0, 0, 0), (.getfield 19, 6, 2), (.iconst 1, 0, 0)] (by decide +kernel) ⟨g_Tape_19, trivial⟩ ⟨o1, ?_⟩
        show Ev (d + 1) M_Tape_readPart 0 0 70 [(2, v0), (2, v1), (0, x8), (0, x11), zJ, zJ] [(0, 1), (0, m12 v0 2), (2, v0)] kd m12 (zqV kd q)
        obtain ⟨ov, h⟩ := h
        obtain ⟨q31, hq, h⟩ := h
        refine EvX.callV (c := 6) (mc := 0) (ms := 0) (as := [(0, m12 v0 2), (0, 1)]) (st := []) (by decide +kernel) l_Tape_45 k_Tape_blame v_Tape_blame a_Tape_blame (by decide) (Nat.le_of_ble_eq_true rfl) rfl ov hq (fun r kd1 m33 hr => ?_)
        obtain ⟨rfl, hk, hr⟩ := hr
        subst kd1
        have h := h m33 hr
        show Ev (d + 1) M_Tape_readPart 0 0 73 [(2, v0), (2, v1), (0, x8), (0, x11), zJ, zJ] [] kd m33 (zqV kd q)
        exact EvX.ret (r := zJ) (by decide +kernel) rfl ⟨rfl, rfl, h⟩
    · have h := h.2 hc
      obtain ⟨o1, h⟩ := h
      refine EvX.blk (pc' := 31) [(.aload_n 0, 0, 0), (.aload_n 0, 0, 0), (.getfield 19, 6, 2), (.iconst 1, 0, 0)] (by decide +kernel) ⟨g_Tape_19, trivial⟩ ⟨o1, ?_⟩
      show Ev (d + 1) M_Tape_readPart 0 0 31 [(2, v0), (2, v1), zJ, zJ, zJ, zJ] [(0, 1), (0, m v0 2), (2, v0)] kd m (zqV kd q)
      obtain ⟨ov, h⟩ := h
      obtain ⟨q34, hq, h⟩ := h
      refine EvX.callV (c := 6) (mc := 0) (ms := 0) (as := [(0, m v0 2), (0, 1)]) (st := []) (by decide +kernel) l_Tape_45 k_Tape_blame v_Tape_blame a_Tape_blame (by decide) (Nat.le_of_ble_eq_true rfl) rfl ov hq (fun r kd1 m36 hr => ?_)
      obtain ⟨rfl, hk, hr⟩ := hr
      subst kd1
      have h := h m36 hr
      show Ev (d + 1) M_Tape_readPart 0 0 34 [(2, v0), (2, v1), zJ, zJ, zJ, zJ] [] kd m36 (zqV kd q)
      exact EvX.ret (r := zJ) (by decide +kernel) rfl ⟨rfl, rfl, h⟩
theorem S_Tape_readPart {d : Nat} {kd : ZK} {m : ZM} {q : ZM → Prop} {v0 v1 : Int} (h : (zobj kd v0 6 ∧ zobj kd v0 6 ∧ (((m v0 1) ≤ (m v0 2) → (zobj kd v0 6 ∧ (zobj kd v0 6 ∧ ∃ q1, CtV d M_Tape_blame [(2, v0), (0, m v0 2), (0, 1)] kd m q1 ∧ ∀ m3, q1 m3 → q m3))) ∧ (¬ (m v0 1) ≤ (m v0 2) → (zobj kd v0 6 ∧ zobj kd v0 6 ∧ zIn kd (m v0 0) 0 (m v0 2) ∧ (((m (m v0 0) (m v0 2)) = 59 → (zobj kd v0 6 ∧ zobj kd v0 6 ∧ (zobj kd v0 6 ∧ ∃ q4, CtV d M_Tape_skipBlanks [(2, v0)] kd (zup m v0 2 (iw ((m v0 2) + 1))) q4 ∧ ∀ m6, q4 m6 → (zobj kd v0 6 ∧ ∃ q7, CtI d M_Tape_behindWord [(2, v0)] kd m6 q7 ∧ ∀ x8 m9, q7 x8 m9 → (zobj kd v0 6 ∧ ∃ q10, CtI d M_Tape_kindOfWord [(2, v0), (0, x8)] kd m9 q10 ∧ ∀ x11 m12, q10 x11 m12 → ((x11 ≠ 0 → (zobj kd v0 6 ∧ zobj kd v1 1 ∧ (zobj kd v0 6 ∧ ∃ q13, CtI d M_Tape_readNumber [(2, v0), (0, 0), (0, iw (((zup m12 v0 2 x8) v1 0) - 1))] kd (zup m12 v0 2 x8) q13 ∧ ∀ x14 m15, q13 x14 m15 → (zobj kd v1 1 ∧ (zobj kd v0 6 ∧ ∃ q16, CtI d M_Tape_readNumber [(2, v0), (0, 0), (0, iw ((m15 v1 1) - 1))] kd m15 q16 ∧ ∀ x17 m18, q16 x17 m18 → ((x11 ≠ 1 → ((x11 = 2 → (zobj kd v0 6 ∧ ∃ q19, CtV d M_Tape_readSpot [(2, v0), (2, v1), (0, x11), (0, x14), (0, x17)] kd m18 q19 ∧ ∀ m21, q19 m21 → q m21)) ∧ (¬ x11 = 2 → ((x11 ≠ 7 → (zobj kd v0 6 ∧ (((m18 v0 3) ≠ 0 → q m18) ∧ (¬ (m18 v0 3) ≠ 0 → (∃ q22, CtV d M_Tape_winWhere [(2, v1), (0, x11), (0, x14), (0, x17)] kd m18 q22 ∧ ∀ m24, q22 m24 → q m24))))) ∧ (¬ x11 ≠ 7 → (zobj kd v0 6 ∧ ∃ q25, CtV d M_Tape_readSpot [(2, v0), (2, v1), (0, x11), (0, x14), (0, x17)] kd m18 q25 ∧ ∀ m27, q25 m27 → q m27)))))) ∧ (¬ x11 ≠ 1 → (zobj kd v0 6 ∧ ∃ q28, CtV d M_Tape_readWeight [(2, v0), (2, v1), (0, x14), (0, x17)] kd m18 q28 ∧ ∀ m30, q28 m30 → q m30)))))))) ∧ (¬ x11 ≠ 0 → (zobj kd v0 6 ∧ (zobj kd v0 6 ∧ ∃ q31, CtV d M_Tape_blame [(2, v0), (0, m12 v0 2), (0, 1)] kd m12 q31 ∧ ∀ m33, q31 m33 → q m33))))))))) ∧ (¬ (m (m v0 0) (m v0 2)) = 59 → (zobj kd v0 6 ∧ (zobj kd v0 6 ∧ ∃ q34, CtV d M_Tape_blame [(2, v0), (0, m v0 2), (0, 1)] kd m q34 ∧ ∀ m36, q34 m36 → q m36))))))))) : CtV (d + 1) M_Tape_readPart [(2, v0), (2, v1)] kd m q :=
  Ct.start k_Tape_readPart (Nat.le_of_ble_eq_true rfl) ⟨0, Or.inl ⟨rfl, rfl⟩⟩ (T_Tape_readPart_0 h)
set_option maxRecDepth 20000 in
set_option maxHeartbeats 1000000 in
theorem T_Tape_readWeight_0 {d : Nat} {kd : ZK} {m : ZM} {q : ZM → Prop} {v0 v1 v2 v3 : Int} (h : (zobj kd v0 6 ∧ ∃ q1, CtI d M_Tape_readNumber [(2, v0), (0, 0), (0, 9)] kd m q1 ∧ ∀ x2 m3, q1 x2 m3 → (zobj kd v0 6 ∧ (((m3 v0 3) ≠ 0 → q m3) ∧ (¬ (m3 v0 3) ≠ 0 → (zobj kd v1 1 ∧ (∃ q4, CtI d M_Ap_cellOf [(0, 0), (0, v2), (0, v3)] kd m3 q4 ∧ ∀ x5 m6, q4 x5 m6 → (zIn kd (m3 v1 4) 0 x5 ∧ q (zup m6 (m3 v1 4) x5 x2))))))))) : Ev (d + 1) M_Tape_readWeight 0 0 0 [(2, v0), (2, v1), (0, v2), (0, v3), zJ] [] kd m (zqV kd q) := by
  refine EvX.blk (pc' := 4) [(.aload_n 0, 0, 0), (.iconst 0, 0, 0), (.bipush 9, 0, 0)] (by decide +kernel) trivial ?_
  show Ev (d + 1) M_Tape_readWeight 0 0 4 [(2, v0), (2, v1), (0, v2), (0, v3), zJ] [(0, 9), (0, 0), (2, v0)] kd m (zqV kd q)
  obtain ⟨ov, h⟩ := h
  obtain ⟨q1, hq, h⟩ := h
  refine EvX.callV (c := 6) (mc := 0) (ms := 0) (as := [(0, 0), (0, 9)]) (st := []) (by decide +kernel) l_Tape_49 k_Tape_readNumber v_Tape_readNumber a_Tape_readNumber (by decide) (Nat.le_of_ble_eq_true rfl) rfl ov hq (fun r kd1 m3 hr => ?_)
  obtain ⟨x2, rfl, hk, hr⟩ := hr
  subst kd1
  have h := h x2 m3 hr
  show Ev (d + 1) M_Tape_readWeight 0 0 7 [(2, v0), (2, v1), (0, v2), (0, v3), zJ] [(0, x2)] kd m3 (zqV kd q)
  obtain ⟨o1, h⟩ := h
  refine EvX.blk (pc' := 13) [(.istore 4, 0, 0), (.aload_n 0, 0, 0), (.getfield 22, 6, 3)] (by decide +kernel) ⟨g_Tape_22, trivial⟩ ⟨o1, ?_⟩
  show Ev (d + 1) M_Tape_readWeight 0 0 13 [(2, v0), (2, v1), (0, v2), (0, v3), (0, x2)] [(0, m3 v0 3)] kd m3 (zqV kd q)
  refine EvX.if_ne (off := 16) (tgt := 29) (by decide +kernel) (by decide) (fun hc => ?_) (fun hc => ?_)
  · have h := h.1 hc
    exact EvX.ret (r := zJ) (by decide +kernel) rfl ⟨rfl, rfl, h⟩
  · have h := h.2 hc
    obtain ⟨o1, h⟩ := h
    refine EvX.blk (pc' := 23) [(.aload_n 1, 0, 0), (.getfield 80, 1, 4), (.iconst 0, 0, 0), (.iload_n 2, 0, 0), (.iload_n 3, 0, 0)] (by decide +kernel) ⟨g_Tape_80, trivial⟩ ⟨o1, ?_⟩
    show Ev (d + 1) M_Tape_readWeight 0 0 23 [(2, v0), (2, v1), (0, v2), (0, v3), (0, x2)] [(0, v3), (0, v2), (0, 0), (2, m3 v1 4)] kd m3 (zqV kd q)
    obtain ⟨q4, hq, h⟩ := h
    refine EvX.callS (mc := 0) (ms := 0) (as := [(0, 0), (0, v2), (0, v3)]) (st := [(2, m3 v1 4)]) (by decide +kernel) l_Tape_83 k_Ap_cellOf s_Ap_cellOf a_Ap_cellOf (by decide) (Nat.le_of_ble_eq_true rfl) hq (fun r kd1 m6 hr => ?_)
    obtain ⟨x5, rfl, hk, hr⟩ := hr
    subst kd1
    have h := h x5 m6 hr
    show Ev (d + 1) M_Tape_readWeight 0 0 26 [(2, v0), (2, v1), (0, v2), (0, v3), (0, x2)] [(0, x5), (2, m3 v1 4)] kd m6 (zqV kd q)
    obtain ⟨o1, h⟩ := h
    refine EvX.blk (pc' := 29) [(.iload 4, 0, 0), (.iastore, 0, 0)] (by decide +kernel) trivial ⟨o1, ?_⟩
    show Ev (d + 1) M_Tape_readWeight 0 0 29 [(2, v0), (2, v1), (0, v2), (0, v3), (0, x2)] [] kd (zup m6 (m3 v1 4) x5 x2) (zqV kd q)
    exact EvX.ret (r := zJ) (by decide +kernel) rfl ⟨rfl, rfl, h⟩
theorem S_Tape_readWeight {d : Nat} {kd : ZK} {m : ZM} {q : ZM → Prop} {v0 v1 v2 v3 : Int} (h : (zobj kd v0 6 ∧ ∃ q1, CtI d M_Tape_readNumber [(2, v0), (0, 0), (0, 9)] kd m q1 ∧ ∀ x2 m3, q1 x2 m3 → (zobj kd v0 6 ∧ (((m3 v0 3) ≠ 0 → q m3) ∧ (¬ (m3 v0 3) ≠ 0 → (zobj kd v1 1 ∧ (∃ q4, CtI d M_Ap_cellOf [(0, 0), (0, v2), (0, v3)] kd m3 q4 ∧ ∀ x5 m6, q4 x5 m6 → (zIn kd (m3 v1 4) 0 x5 ∧ q (zup m6 (m3 v1 4) x5 x2))))))))) : CtV (d + 1) M_Tape_readWeight [(2, v0), (2, v1), (0, v2), (0, v3)] kd m q :=
  Ct.start k_Tape_readWeight (Nat.le_of_ble_eq_true rfl) ⟨0, Or.inl ⟨rfl, rfl⟩⟩ (T_Tape_readWeight_0 h)
set_option maxRecDepth 20000 in
set_option maxHeartbeats 1000000 in
theorem T_Tape_readSpot_0 {d : Nat} {kd : ZK} {m : ZM} {q : ZM → Prop} {v0 v1 v2 v3 v4 : Int} (h : (zobj kd v1 1 ∧ (zobj kd v0 6 ∧ ∃ q1, CtI d M_Tape_readNumber [(2, v0), (0, 0), (0, iw ((m v1 2) - 1))] kd m q1 ∧ ∀ x2 m3, q1 x2 m3 → (zobj kd v1 1 ∧ (zobj kd v0 6 ∧ ∃ q4, CtI d M_Tape_readNumber [(2, v0), (0, 0), (0, iw ((m3 v1 3) - 1))] kd m3 q4 ∧ ∀ x5 m6, q4 x5 m6 → ((v2 ≠ 7 → (Ev (d + 1) M_Tape_readSpot 0 0 43 [(2, v0), (2, v1), (0, v2), (0, v3), (0, v4), (0, x2), (0, x5), zJ, zJ] [(0, 1)] kd m6 (zqV kd q))) ∧ (¬ v2 ≠ 7 → (zobj kd v0 6 ∧ ∃ q7, CtI d M_Tape_readNumber [(2, v0), (0, 0), (0, 12)] kd m6 q7 ∧ ∀ x8 m9, q7 x8 m9 → (Ev (d + 1) M_Tape_readSpot 0 0 43 [(2, v0), (2, v1), (0, v2), (0, v3), (0, v4), (0, x2), (0, x5), zJ, zJ] [(0, x8)] kd m9 (zqV kd q)))))))))) : Ev (d + 1) M_Tape_readSpot 0 0 0 [(2, v0), (2, v1), (0, v2), (0, v3), (0, v4), zJ, zJ, zJ, zJ] [] kd m (zqV kd q) := by
  obtain ⟨o1, h⟩ := h
  refine EvX.blk (pc' := 8) [(.aload_n 0, 0, 0), (.iconst 0, 0, 0), (.aload_n 1, 0, 0), (.getfield 87, 1, 2), (.iconst 1, 0, 0), (.isub, 0, 0)] (by decide +kernel) ⟨g_Tape_87, trivial⟩ ⟨o1, ?_⟩
  show Ev (d + 1) M_Tape_readSpot 0 0 8 [(2, v0), (2, v1), (0, v2), (0, v3), (0, v4), zJ, zJ, zJ, zJ] [(0, iw ((m v1 2) - 1)), (0, 0), (2, v0)] kd m (zqV kd q)
  obtain ⟨ov, h⟩ := h
  obtain ⟨q1, hq, h⟩ := h
  refine EvX.callV (c := 6) (mc := 0) (ms := 0) (as := [(0, 0), (0, iw ((m v1 2) - 1))]) (st := []) (by decide +kernel) l_Tape_49 k_Tape_readNumber v_Tape_readNumber a_Tape_readNumber (by decide) (Nat.le_of_ble_eq_true rfl) rfl ov hq (fun r kd1 m3 hr => ?_)
  obtain ⟨x2, rfl, hk, hr⟩ := hr
  subst kd1
  have h := h x2 m3 hr
  show Ev (d + 1) M_Tape_readSpot 0 0 11 [(2, v0), (2, v1), (0, v2), (0, v3), (0, v4), zJ, zJ, zJ, zJ] [(0, x2)] kd m3 (zqV kd q)
  obtain ⟨o1, h⟩ := h
  refine EvX.blk (pc' := 21) [(.istore 5, 0, 0), (.aload_n 0, 0, 0), (.iconst 0, 0, 0), (.aload_n 1, 0, 0), (.getfield 90, 1, 3), (.iconst 1, 0, 0), (.isub, 0, 0)] (by decide +kernel) ⟨g_Tape_90, trivial⟩ ⟨o1, ?_⟩
  show Ev (d + 1) M_Tape_readSpot 0 0 21 [(2, v0), (2, v1), (0, v2), (0, v3), (0, v4), (0, x2), zJ, zJ, zJ] [(0, iw ((m3 v1 3) - 1)), (0, 0), (2, v0)] kd m3 (zqV kd q)
  obtain ⟨ov, h⟩ := h
  obtain ⟨q4, hq, h⟩ := h
  refine EvX.callV (c := 6) (mc := 0) (ms := 0) (as := [(0, 0), (0, iw ((m3 v1 3) - 1))]) (st := []) (by decide +kernel) l_Tape_49 k_Tape_readNumber v_Tape_readNumber a_Tape_readNumber (by decide) (Nat.le_of_ble_eq_true rfl) rfl ov hq (fun r kd1 m6 hr => ?_)
  obtain ⟨x5, rfl, hk, hr⟩ := hr
  subst kd1
  have h := h x5 m6 hr
  show Ev (d + 1) M_Tape_readSpot 0 0 24 [(2, v0), (2, v1), (0, v2), (0, v3), (0, v4), (0, x2), zJ, zJ, zJ] [(0, x5)] kd m6 (zqV kd q)
  refine EvX.blk (pc' := 29) [(.istore 6, 0, 0), (.iload_n 2, 0, 0), (.bipush 7, 0, 0)] (by decide +kernel) trivial ?_
  show Ev (d + 1) M_Tape_readSpot 0 0 29 [(2, v0), (2, v1), (0, v2), (0, v3), (0, v4), (0, x2), (0, x5), zJ, zJ] [(0, 7), (0, v2)] kd m6 (zqV kd q)
  refine EvX.icmp_ne (off := 13) (tgt := 42) (by decide +kernel) (by decide) (fun hc => ?_) (fun hc => ?_)
  · have h := h.1 hc
    refine EvX.blk (pc' := 43) [(.iconst 1, 0, 0)] (by decide +kernel) trivial ?_
    show Ev (d + 1) M_Tape_readSpot 0 0 43 [(2, v0), (2, v1), (0, v2), (0, v3), (0, v4), (0, x2), (0, x5), zJ, zJ] [(0, 1)] kd m6 (zqV kd q)
    exact h
  · have h := h.2 hc
    refine EvX.blk (pc' := 36) [(.aload_n 0, 0, 0), (.iconst 0, 0, 0), (.bipush 12, 0, 0)] (by decide +kernel) trivial ?_
    show Ev (d + 1) M_Tape_readSpot 0 0 36 [(2, v0), (2, v1), (0, v2), (0, v3), (0, v4), (0, x2), (0, x5), zJ, zJ] [(0, 12), (0, 0), (2, v0)] kd m6 (zqV kd q)
    obtain ⟨ov, h⟩ := h
    obtain ⟨q7, hq, h⟩ := h
    refine EvX.callV (c := 6) (mc := 0) (ms := 0) (as := [(0, 0), (0, 12)]) (st := []) (by decide +kernel) l_Tape_49 k_Tape_readNumber v_Tape_readNumber a_Tape_readNumber (by decide) (Nat.le_of_ble_eq_true rfl) rfl ov hq (fun r kd1 m9 hr => ?_)
    obtain ⟨x8, rfl, hk, hr⟩ := hr
    subst kd1
    have h := h x8 m9 hr
    show Ev (d + 1) M_Tape_readSpot 0 0 39 [(2, v0), (2, v1), (0, v2), (0, v3), (0, v4), (0, x2), (0, x5), zJ, zJ] [(0, x8)] kd m9 (zqV kd q)
    refine EvX.goto (off := 4) (tgt := 43) (by decide +kernel) (by decide) ?_
    exact h
theorem S_Tape_readSpot {d : Nat} {kd : ZK} {m : ZM} {q : ZM → Prop} {v0 v1 v2 v3 v4 : Int} (h : (zobj kd v1 1 ∧ (zobj kd v0 6 ∧ ∃ q1, CtI d M_Tape_readNumber [(2, v0), (0, 0), (0, iw ((m v1 2) - 1))] kd m q1 ∧ ∀ x2 m3, q1 x2 m3 → (zobj kd v1 1 ∧ (zobj kd v0 6 ∧ ∃ q4, CtI d M_Tape_readNumber [(2, v0), (0, 0), (0, iw ((m3 v1 3) - 1))] kd m3 q4 ∧ ∀ x5 m6, q4 x5 m6 → ((v2 ≠ 7 → (Ev (d + 1) M_Tape_readSpot 0 0 43 [(2, v0), (2, v1), (0, v2), (0, v3), (0, v4), (0, x2), (0, x5), zJ, zJ] [(0, 1)] kd m6 (zqV kd q))) ∧ (¬ v2 ≠ 7 → (zobj kd v0 6 ∧ ∃ q7, CtI d M_Tape_readNumber [(2, v0), (0, 0), (0, 12)] kd m6 q7 ∧ ∀ x8 m9, q7 x8 m9 → (Ev (d + 1) M_Tape_readSpot 0 0 43 [(2, v0), (2, v1), (0, v2), (0, v3), (0, v4), (0, x2), (0, x5), zJ, zJ] [(0, x8)] kd m9 (zqV kd q)))))))))) : CtV (d + 1) M_Tape_readSpot [(2, v0), (2, v1), (0, v2), (0, v3), (0, v4)] kd m q :=
  Ct.start k_Tape_readSpot (Nat.le_of_ble_eq_true rfl) ⟨0, Or.inl ⟨rfl, rfl⟩⟩ (T_Tape_readSpot_0 h)
set_option maxRecDepth 20000 in
set_option maxHeartbeats 1000000 in
theorem T_Tape_readSpot_43 {d : Nat} {kd : ZK} {m : ZM} {q : ZM → Prop} {v0 v1 v2 v3 v4 v5 v6 s0 : Int} (h : (zobj kd v0 6 ∧ (((m v0 3) = 0 → (∃ q1, CtI d M_Ap_spotOf [(0, 0), (0, v3), (0, v4), (0, v5), (0, v6)] kd m q1 ∧ ∀ x2 m3, q1 x2 m3 → ((v2 ≠ 7 → (zobj kd v1 1 ∧ zIn kd (m3 v1 5) 0 x2 ∧ q (zup m3 (m3 v1 5) x2 s0))) ∧ (¬ v2 ≠ 7 → (zobj kd v1 1 ∧ zIn kd (m3 v1 6) 0 x2 ∧ q (zup m3 (m3 v1 6) x2 s0)))))) ∧ (¬ (m v0 3) = 0 → q m)))) : Ev (d + 1) M_Tape_readSpot 0 0 43 [(2, v0), (2, v1), (0, v2), (0, v3), (0, v4), (0, v5), (0, v6), zJ, zJ] [(0, s0)] kd m (zqV kd q) := by
  obtain ⟨o1, h⟩ := h
  refine EvX.blk (pc' := 49) [(.istore 7, 0, 0), (.aload_n 0, 0, 0), (.getfield 22, 6, 3)] (by decide +kernel) ⟨g_Tape_22, trivial⟩ ⟨o1, ?_⟩
  show Ev (d + 1) M_Tape_readSpot 0 0 49 [(2, v0), (2, v1), (0, v2), (0, v3), (0, v4), (0, v5), (0, v6), (0, s0), zJ] [(0, m v0 3)] kd m (zqV kd q)
  refine EvX.if_eq (off := 4) (tgt := 53) (by decide +kernel) (by decide) (fun hc => ?_) (fun hc => ?_)
  · have h := h.1 hc
    refine EvX.blk (pc' := 61) [(.iconst 0, 0, 0), (.iload_n 3, 0, 0), (.iload 4, 0, 0), (.iload 5, 0, 0), (.iload 6, 0, 0)] (by decide +kernel) trivial ?_
    show Ev (d + 1) M_Tape_readSpot 0 0 61 [(2, v0), (2, v1), (0, v2), (0, v3), (0, v4), (0, v5), (0, v6), (0, s0), zJ] [(0, v6), (0, v5), (0, v4), (0, v3), (0, 0)] kd m (zqV kd q)
    obtain ⟨q1, hq, h⟩ := h
    refine EvX.callS (mc := 0) (ms := 0) (as := [(0, 0), (0, v3), (0, v4), (0, v5), (0, v6)]) (st := []) (by decide +kernel) l_Tape_93 k_Ap_spotOf s_Ap_spotOf a_Ap_spotOf (by decide) (Nat.le_of_ble_eq_true rfl) hq (fun r kd1 m3 hr => ?_)
    obtain ⟨x2, rfl, hk, hr⟩ := hr
    subst kd1
    have h := h x2 m3 hr
    show Ev (d + 1) M_Tape_readSpot 0 0 64 [(2, v0), (2, v1), (0, v2), (0, v3), (0, v4), (0, v5), (0, v6), (0, s0), zJ] [(0, x2)] kd m3 (zqV kd q)
    refine EvX.blk (pc' := 69) [(.istore 8, 0, 0), (.iload_n 2, 0, 0), (.bipush 7, 0, 0)] (by decide +kernel) trivial ?_
    show Ev (d + 1) M_Tape_readSpot 0 0 69 [(2, v0), (2, v1), (0, v2), (0, v3), (0, v4), (0, v5), (0, v6), (0, s0), (0, x2)] [(0, 7), (0, v2)] kd m3 (zqV kd q)
    refine EvX.icmp_ne (off := 15) (tgt := 84) (by decide +kernel) (by decide) (fun hc => ?_) (fun hc => ?_)
    · have h := h.1 hc
      obtain ⟨o1, o2, h⟩ := h
      refine EvX.blk (pc' := 93) [(.aload_n 1, 0, 0), (.getfield 100, 1, 5), (.iload 8, 0, 0), (.iload 7, 0, 0), (.iastore, 0, 0)] (by decide +kernel) ⟨g_Tape_100, trivial⟩ ⟨o1, o2, ?_⟩
      show Ev (d + 1) M_Tape_readSpot 0 0 93 [(2, v0), (2, v1), (0, v2), (0, v3), (0, v4), (0, v5), (0, v6), (0, s0), (0, x2)] [] kd (zup m3 (m3 v1 5) x2 s0) (zqV kd q)
      exact EvX.ret (r := zJ) (by decide +kernel) rfl ⟨rfl, rfl, h⟩
    · have h := h.2 hc
      obtain ⟨o1, o2, h⟩ := h
      refine EvX.blk (pc' := 81) [(.aload_n 1, 0, 0), (.getfield 97, 1, 6), (.iload 8, 0, 0), (.iload 7, 0, 0), (.iastore, 0, 0)] (by decide +kernel) ⟨g_Tape_97, trivial⟩ ⟨o1, o2, ?_⟩
      show Ev (d + 1) M_Tape_readSpot 0 0 81 [(2, v0), (2, v1), (0, v2), (0, v3), (0, v4), (0, v5), (0, v6), (0, s0), (0, x2)] [] kd (zup m3 (m3 v1 6) x2 s0) (zqV kd q)
      refine EvX.goto (off := 12) (tgt := 93) (by decide +kernel) (by decide) ?_
      exact EvX.ret (r := zJ) (by decide +kernel) rfl ⟨rfl, rfl, h⟩
  · have h := h.2 hc
    exact EvX.ret (r := zJ) (by decide +kernel) rfl ⟨rfl, rfl, h⟩
set_option maxRecDepth 20000 in
set_option maxHeartbeats 1000000 in
theorem T_Tape_winWhere_0 {d : Nat} {kd : ZK} {m : ZM} {q : ZM → Prop} {v0 v1 v2 v3 : Int} (h : (Ev (d + 1) M_Tape_winWhere 0 0 3 [(2, v0), (0, v1), (0, v2), (0, v3), (0, 0), zJ] [] kd m (zqV kd q))) : Ev (d + 1) M_Tape_winWhere 0 0 0 [(2, v0), (0, v1), (0, v2), (0, v3), zJ, zJ] [] kd m (zqV kd q) := by
  refine EvX.blk (pc' := 3) [(.iconst 0, 0, 0), (.istore 4, 0, 0)] (by decide +kernel) trivial ?_
  show Ev (d + 1) M_Tape_winWhere 0 0 3 [(2, v0), (0, v1), (0, v2), (0, v3), (0, 0), zJ] [] kd m (zqV kd q)
  exact h
theorem S_Tape_winWhere {d : Nat} {kd : ZK} {m : ZM} {q : ZM → Prop} {v0 v1 v2 v3 : Int} (h : (Ev (d + 1) M_Tape_winWhere 0 0 3 [(2, v0), (0, v1), (0, v2), (0, v3), (0, 0), zJ] [] kd m (zqV kd q))) : CtV (d + 1) M_Tape_winWhere [(2, v0), (0, v1), (0, v2), (0, v3)] kd m q :=
  Ct.start k_Tape_winWhere (Nat.le_of_ble_eq_true rfl) ⟨0, Or.inl ⟨rfl, rfl⟩⟩ (T_Tape_winWhere_0 h)
set_option maxRecDepth 20000 in
set_option maxHeartbeats 1000000 in
theorem T_Tape_winWhere_3 {d : Nat} {kd : ZK} {m : ZM} {q : ZM → Prop} {v0 v1 v2 v3 v4 : Int} (h : (zobj kd v0 1 ∧ (((m v0 2) ≤ v4 → q m) ∧ (¬ (m v0 2) ≤ v4 → (Ev (d + 1) M_Tape_winWhere 0 0 15 [(2, v0), (0, v1), (0, v2), (0, v3), (0, v4), (0, 0)] [] kd m (zqV kd q)))))) : Ev (d + 1) M_Tape_winWhere 0 0 3 [(2, v0), (0, v1), (0, v2), (0, v3), (0, v4), zJ] [] kd m (zqV kd q) := by
  obtain ⟨o1, h⟩ := h
  refine EvX.blk (pc' := 9) [(.iload 4, 0, 0), (.aload_n 0, 0, 0), (.getfield 87, 1, 2)] (by decide +kernel) ⟨g_Tape_87, trivial⟩ ⟨o1, ?_⟩
  show Ev (d + 1) M_Tape_winWhere 0 0 9 [(2, v0), (0, v1), (0, v2), (0, v3), (0, v4), zJ] [(0, m v0 2), (0, v4)] kd m (zqV kd q)
  refine EvX.icmp_ge (off := 54) (tgt := 63) (by decide +kernel) (by decide) (fun hc => ?_) (fun hc => ?_)
  · have h := h.1 hc
    exact EvX.ret (r := zJ) (by decide +kernel) rfl ⟨rfl, rfl, h⟩
  · have h := h.2 hc
    refine EvX.blk (pc' := 15) [(.iconst 0, 0, 0), (.istore 5, 0, 0)] (by decide +kernel) trivial ?_
    show Ev (d + 1) M_Tape_winWhere 0 0 15 [(2, v0), (0, v1), (0, v2), (0, v3), (0, v4), (0, 0)] [] kd m (zqV kd q)
    exact h
set_option maxRecDepth 20000 in
set_option maxHeartbeats 1000000 in
theorem T_Tape_winWhere_15 {d : Nat} {kd : ZK} {m : ZM} {q : ZM → Prop} {v0 v1 v2 v3 v4 v5 : Int} (h : (zobj kd v0 1 ∧ (((m v0 3) ≤ v5 → (Ev (d + 1) M_Tape_winWhere 0 0 3 [(2, v0), (0, v1), (0, v2), (0, v3), (0, iw (v4 + 1)), zJ] [] kd m (zqV kd q))) ∧ (¬ (m v0 3) ≤ v5 → (∃ q1, CtI d M_Tape_suits [(0, v1), (0, v4), (0, v5)] kd m q1 ∧ ∀ x2 m3, q1 x2 m3 → ((x2 = 0 → (Ev (d + 1) M_Tape_winWhere 0 0 15 [(2, v0), (0, v1), (0, v2), (0, v3), (0, v4), (0, iw (v5 + 1))] [] kd m3 (zqV kd q))) ∧ (¬ x2 = 0 → (zobj kd v0 1 ∧ (∃ q4, CtI d M_Ap_spotOf [(0, 0), (0, v2), (0, v3), (0, v4), (0, v5)] kd m3 q4 ∧ ∀ x5 m6, q4 x5 m6 → (zIn kd (m3 v0 5) 0 x5 ∧ (Ev (d + 1) M_Tape_winWhere 0 0 15 [(2, v0), (0, v1), (0, v2), (0, v3), (0, v4), (0, iw (v5 + 1))] [] kd (zup m6 (m3 v0 5) x5 1) (zqV kd q)))))))))))) : Ev (d + 1) M_Tape_winWhere 0 0 15 [(2, v0), (0, v1), (0, v2), (0, v3), (0, v4), (0, v5)] [] kd m (zqV kd q) := by
  obtain ⟨o1, h⟩ := h
  refine EvX.blk (pc' := 21) [(.iload 5, 0, 0), (.aload_n 0, 0, 0), (.getfield 90, 1, 3)] (by decide +kernel) ⟨g_Tape_90, trivial⟩ ⟨o1, ?_⟩
  show Ev (d + 1) M_Tape_winWhere 0 0 21 [(2, v0), (0, v1), (0, v2), (0, v3), (0, v4), (0, v5)] [(0, m v0 3), (0, v5)] kd m (zqV kd q)
  refine EvX.icmp_ge (off := 36) (tgt := 57) (by decide +kernel) (by decide) (fun hc => ?_) (fun hc => ?_)
  · have h := h.1 hc
    refine EvX.blk (pc' := 60) [(.iinc 4 1, 0, 0)] (by decide +kernel) trivial ?_
    show Ev (d + 1) M_Tape_winWhere 0 0 60 [(2, v0), (0, v1), (0, v2), (0, v3), (0, iw (v4 + 1)), (0, v5)] [] kd m (zqV kd q)
    refine EvX.goto (off := (-57)) (tgt := 3) (by decide +kernel) (by decide) ?_
    exact EvX.weak (ls2 := [(2, v0), (0, v1), (0, v2), (0, v3), (0, iw (v4 + 1)), zJ]) (zwk_of ⟨Or.inr rfl, Or.inr rfl, Or.inr rfl, Or.inr rfl, Or.inr rfl, Or.inl rfl, trivial⟩) h
  · have h := h.2 hc
    refine EvX.blk (pc' := 29) [(.iload_n 1, 0, 0), (.iload 4, 0, 0), (.iload 5, 0, 0)] (by decide +kernel) trivial ?_
    show Ev (d + 1) M_Tape_winWhere 0 0 29 [(2, v0), (0, v1), (0, v2), (0, v3), (0, v4), (0, v5)] [(0, v5), (0, v4), (0, v1)] kd m (zqV kd q)
    obtain ⟨q1, hq, h⟩ := h
    refine EvX.callS (mc := 0) (ms := 0) (as := [(0, v1), (0, v4), (0, v5)]) (st := []) (by decide +kernel) l_Tape_103 k_Tape_suits s_Tape_suits a_Tape_suits (by decide) (Nat.le_of_ble_eq_true rfl) hq (fun r kd1 m3 hr => ?_)
    obtain ⟨x2, rfl, hk, hr⟩ := hr
    subst kd1
    have h := h x2 m3 hr
    show Ev (d + 1) M_Tape_winWhere 0 0 32 [(2, v0), (0, v1), (0, v2), (0, v3), (0, v4), (0, v5)] [(0, x2)] kd m3 (zqV kd q)
    refine EvX.if_eq (off := 19) (tgt := 51) (by decide +kernel) (by decide) (fun hc => ?_) (fun hc => ?_)
    · have h := h.1 hc
      refine EvX.blk (pc' := 54) [(.iinc 5 1, 0, 0)] (by decide +kernel) trivial ?_
      show Ev (d + 1) M_Tape_winWhere 0 0 54 [(2, v0), (0, v1), (0, v2), (0, v3), (0, v4), (0, iw (v5 + 1))] [] kd m3 (zqV kd q)
      refine EvX.goto (off := (-39)) (tgt := 15) (by decide +kernel) (by decide) ?_
      exact h
    · have h := h.2 hc
      obtain ⟨o1, h⟩ := h
      refine EvX.blk (pc' := 46) [(.aload_n 0, 0, 0), (.getfield 100, 1, 5), (.iconst 0, 0, 0), (.iload_n 2, 0, 0), (.iload_n 3, 0, 0), (.iload 4, 0, 0), (.iload 5, 0, 0)] (by decide +kernel) ⟨g_Tape_100, trivial⟩ ⟨o1, ?_⟩
      show Ev (d + 1) M_Tape_winWhere 0 0 46 [(2, v0), (0, v1), (0, v2), (0, v3), (0, v4), (0, v5)] [(0, v5), (0, v4), (0, v3), (0, v2), (0, 0), (2, m3 v0 5)] kd m3 (zqV kd q)
      obtain ⟨q4, hq, h⟩ := h
      refine EvX.callS (mc := 0) (ms := 0) (as := [(0, 0), (0, v2), (0, v3), (0, v4), (0, v5)]) (st := [(2, m3 v0 5)]) (by decide +kernel) l_Tape_93 k_Ap_spotOf s_Ap_spotOf a_Ap_spotOf (by decide) (Nat.le_of_ble_eq_true rfl) hq (fun r kd1 m6 hr => ?_)
      obtain ⟨x5, rfl, hk, hr⟩ := hr
      subst kd1
      have h := h x5 m6 hr
      show Ev (d + 1) M_Tape_winWhere 0 0 49 [(2, v0), (0, v1), (0, v2), (0, v3), (0, v4), (0, v5)] [(0, x5), (2, m3 v0 5)] kd m6 (zqV kd q)
      obtain ⟨o1, h⟩ := h
      refine EvX.blk (pc' := 54) [(.iconst 1, 0, 0), (.iastore, 0, 0), (.iinc 5 1, 0, 0)] (by decide +kernel) trivial ⟨o1, ?_⟩
      show Ev (d + 1) M_Tape_winWhere 0 0 54 [(2, v0), (0, v1), (0, v2), (0, v3), (0, v4), (0, iw (v5 + 1))] [] kd (zup m6 (m3 v0 5) x5 1) (zqV kd q)
      refine EvX.goto (off := (-39)) (tgt := 15) (by decide +kernel) (by decide) ?_
      exact h
set_option maxRecDepth 20000 in
set_option maxHeartbeats 1000000 in
theorem T_Tape_suits_0 {d : Nat} {kd : ZK} {m : ZM} {q : Int → ZM → Prop} {v0 v1 v2 : Int} (h : (((v0 < 3 ∨ 6 < v0) → q 0 m) ∧ (v0 = 3 → (((Int.tmod (iw (v1 + v2)) 2) ≠ 0 → q 0 m) ∧ (¬ (Int.tmod (iw (v1 + v2)) 2) ≠ 0 → q 1 m))) ∧ (v0 = 4 → (((Int.tmod (iw (v1 + v2)) 2) ≠ 1 → q 0 m) ∧ (¬ (Int.tmod (iw (v1 + v2)) 2) ≠ 1 → q 1 m))) ∧ (v0 = 5 → ((v1 ≠ v2 → q 0 m) ∧ (¬ v1 ≠ v2 → q 1 m))) ∧ (v0 = 6 → ((v1 = v2 → q 0 m) ∧ (¬ v1 = v2 → q 1 m))))) : Ev (d + 1) M_Tape_suits 0 0 0 [(0, v0), (0, v1), (0, v2)] [] kd m (zqI kd q) := by
  refine EvX.blk (pc' := 1) [(.iload_n 0, 0, 0)] (by decide +kernel) trivial ?_
  show Ev (d + 1) M_Tape_suits 0 0 1 [(0, v0), (0, v1), (0, v2)] [(0, v0)] kd m (zqI kd q)
  refine EvX.tsw (dflt := 82) (lo := 3) (hi := 6) (offs := #[31, 45, 60, 71]) (len := 31) (n := 4) (df := 83) (tgt := fun k => match k with | 0 => 32 | 1 => 46 | 2 => 61 | 3 => 72 | _ => 83) (by decide +kernel) (by decide) (by decide) (by decide) (fun hc => ?_) (fun hc => ?_)
  · have h := h.1 hc
    refine EvX.blk (pc' := 84) [(.iconst 0, 0, 0)] (by decide +kernel) trivial ?_
    show Ev (d + 1) M_Tape_suits 0 0 84 [(0, v0), (0, v1), (0, v2)] [(0, 0)] kd m (zqI kd q)
    exact EvX.ret (r := (0, 0)) (by decide +kernel) ⟨rfl, by decide, by decide⟩ ⟨_, rfl, rfl, h⟩
  · have h := h.2
    rcases (show v0 = 3 ∨ v0 = 4 ∨ v0 = 5 ∨ v0 = 6 by omega) with hk | hk | hk | hk
    · have h := h.1 hk
      have ek : (v0 - 3).toNat = 0 := by omega
      rw [ek]
      show Ev (d + 1) M_Tape_suits 0 0 32 [(0, v0), (0, v1), (0, v2)] [] kd m (zqI kd q)
      refine EvX.blk (pc' := 37) [(.iload_n 1, 0, 0), (.iload_n 2, 0, 0), (.iadd, 0, 0), (.iconst 2, 0, 0), (.irem, 0, 0)] (by decide +kernel) trivial ⟨by decide, ?_⟩
      show Ev (d + 1) M_Tape_suits 0 0 37 [(0, v0), (0, v1), (0, v2)] [(0, Int.tmod (iw (v1 + v2)) 2)] kd m (zqI kd q)
      refine EvX.if_ne (off := 7) (tgt := 44) (by decide +kernel) (by decide) (fun hc => ?_) (fun hc => ?_)
      · have h := h.1 hc
        refine EvX.blk (pc' := 45) [(.iconst 0, 0, 0)] (by decide +kernel) trivial ?_
        show Ev (d + 1) M_Tape_suits 0 0 45 [(0, v0), (0, v1), (0, v2)] [(0, 0)] kd m (zqI kd q)
        exact EvX.ret (r := (0, 0)) (by decide +kernel) ⟨rfl, by decide, by decide⟩ ⟨_, rfl, rfl, h⟩
      · have h := h.2 hc
        refine EvX.blk (pc' := 41) [(.iconst 1, 0, 0)] (by decide +kernel) trivial ?_
        show Ev (d + 1) M_Tape_suits 0 0 41 [(0, v0), (0, v1), (0, v2)] [(0, 1)] kd m (zqI kd q)
        refine EvX.goto (off := 4) (tgt := 45) (by decide +kernel) (by decide) ?_
        exact EvX.ret (r := (0, 1)) (by decide +kernel) ⟨rfl, by decide, by decide⟩ ⟨_, rfl, rfl, h⟩
    · have h := h.2.1 hk
      have ek : (v0 - 3).toNat = 1 := by omega
      rw [ek]
      show Ev (d + 1) M_Tape_suits 0 0 46 [(0, v0), (0, v1), (0, v2)] [] kd m (zqI kd q)
      refine EvX.blk (pc' := 52) [(.iload_n 1, 0, 0), (.iload_n 2, 0, 0), (.iadd, 0, 0), (.iconst 2, 0, 0), (.irem, 0, 0), (.iconst 1, 0, 0)] (by decide +kernel) trivial ⟨by decide, ?_⟩
      show Ev (d + 1) M_Tape_suits 0 0 52 [(0, v0), (0, v1), (0, v2)] [(0, 1), (0, Int.tmod (iw (v1 + v2)) 2)] kd m (zqI kd q)
      refine EvX.icmp_ne (off := 7) (tgt := 59) (by decide +kernel) (by decide) (fun hc => ?_) (fun hc => ?_)
      · have h := h.1 hc
        refine EvX.blk (pc' := 60) [(.iconst 0, 0, 0)] (by decide +kernel) trivial ?_
        show Ev (d + 1) M_Tape_suits 0 0 60 [(0, v0), (0, v1), (0, v2)] [(0, 0)] kd m (zqI kd q)
        exact EvX.ret (r := (0, 0)) (by decide +kernel) ⟨rfl, by decide, by decide⟩ ⟨_, rfl, rfl, h⟩
      · have h := h.2 hc
        refine EvX.blk (pc' := 56) [(.iconst 1, 0, 0)] (by decide +kernel) trivial ?_
        show Ev (d + 1) M_Tape_suits 0 0 56 [(0, v0), (0, v1), (0, v2)] [(0, 1)] kd m (zqI kd q)
        refine EvX.goto (off := 4) (tgt := 60) (by decide +kernel) (by decide) ?_
        exact EvX.ret (r := (0, 1)) (by decide +kernel) ⟨rfl, by decide, by decide⟩ ⟨_, rfl, rfl, h⟩
    · have h := h.2.2.1 hk
      have ek : (v0 - 3).toNat = 2 := by omega
      rw [ek]
      show Ev (d + 1) M_Tape_suits 0 0 61 [(0, v0), (0, v1), (0, v2)] [] kd m (zqI kd q)
      refine EvX.blk (pc' := 63) [(.iload_n 1, 0, 0), (.iload_n 2, 0, 0)] (by decide +kernel) trivial ?_
      show Ev (d + 1) M_Tape_suits 0 0 63 [(0, v0), (0, v1), (0, v2)] [(0, v2), (0, v1)] kd m (zqI kd q)
      refine EvX.icmp_ne (off := 7) (tgt := 70) (by decide +kernel) (by decide) (fun hc => ?_) (fun hc => ?_)
      · have h := h.1 hc
        refine EvX.blk (pc' := 71) [(.iconst 0, 0, 0)] (by decide +kernel) trivial ?_
        show Ev (d + 1) M_Tape_suits 0 0 71 [(0, v0), (0, v1), (0, v2)] [(0, 0)] kd m (zqI kd q)
        exact EvX.ret (r := (0, 0)) (by decide +kernel) ⟨rfl, by decide, by decide⟩ ⟨_, rfl, rfl, h⟩
      · have h := h.2 hc
        refine EvX.blk (pc' := 67) [(.iconst 1, 0, 0)] (by decide +kernel) trivial ?_
        show Ev (d + 1) M_Tape_suits 0 0 67 [(0, v0), (0, v1), (0, v2)] [(0, 1)] kd m (zqI kd q)
        refine EvX.goto (off := 4) (tgt := 71) (by decide +kernel) (by decide) ?_
        exact EvX.ret (r := (0, 1)) (by decide +kernel) ⟨rfl, by decide, by decide⟩ ⟨_, rfl, rfl, h⟩
    · have h := h.2.2.2 hk
      have ek : (v0 - 3).toNat = 3 := by omega
      rw [ek]
      show Ev (d + 1) M_Tape_suits 0 0 72 [(0, v0), (0, v1), (0, v2)] [] kd m (zqI kd q)
      refine EvX.blk (pc' := 74) [(.iload_n 1, 0, 0), (.iload_n 2, 0, 0)] (by decide +kernel) trivial ?_
      show Ev (d + 1) M_Tape_suits 0 0 74 [(0, v0), (0, v1), (0, v2)] [(0, v2), (0, v1)] kd m (zqI kd q)
      refine EvX.icmp_eq (off := 7) (tgt := 81) (by decide +kernel) (by decide) (fun hc => ?_) (fun hc => ?_)
      · have h := h.1 hc
        refine EvX.blk (pc' := 82) [(.iconst 0, 0, 0)] (by decide +kernel) trivial ?_
        show Ev (d + 1) M_Tape_suits 0 0 82 [(0, v0), (0, v1), (0, v2)] [(0, 0)] kd m (zqI kd q)
        exact EvX.ret (r := (0, 0)) (by decide +kernel) ⟨rfl, by decide, by decide⟩ ⟨_, rfl, rfl, h⟩
      · have h := h.2 hc
        refine EvX.blk (pc' := 78) [(.iconst 1, 0, 0)] (by decide +kernel) trivial ?_
        show Ev (d + 1) M_Tape_suits 0 0 78 [(0, v0), (0, v1), (0, v2)] [(0, 1)] kd m (zqI kd q)
        refine EvX.goto (off := 4) (tgt := 82) (by decide +kernel) (by decide) ?_
        exact EvX.ret (r := (0, 1)) (by decide +kernel) ⟨rfl, by decide, by decide⟩ ⟨_, rfl, rfl, h⟩
theorem S_Tape_suits {d : Nat} {kd : ZK} {m : ZM} {q : Int → ZM → Prop} {v0 v1 v2 : Int} (h : (((v0 < 3 ∨ 6 < v0) → q 0 m) ∧ (v0 = 3 → (((Int.tmod (iw (v1 + v2)) 2) ≠ 0 → q 0 m) ∧ (¬ (Int.tmod (iw (v1 + v2)) 2) ≠ 0 → q 1 m))) ∧ (v0 = 4 → (((Int.tmod (iw (v1 + v2)) 2) ≠ 1 → q 0 m) ∧ (¬ (Int.tmod (iw (v1 + v2)) 2) ≠ 1 → q 1 m))) ∧ (v0 = 5 → ((v1 ≠ v2 → q 0 m) ∧ (¬ v1 ≠ v2 → q 1 m))) ∧ (v0 = 6 → ((v1 = v2 → q 0 m) ∧ (¬ v1 = v2 → q 1 m))))) : CtI (d + 1) M_Tape_suits [(0, v0), (0, v1), (0, v2)] kd m q :=
  Ct.start k_Tape_suits (Nat.le_of_ble_eq_true rfl) ⟨2, Or.inr (Or.inr (Or.inl ⟨rfl, rfl⟩))⟩ (T_Tape_suits_0 h)
set_option maxRecDepth 20000 in
set_option maxHeartbeats 1000000 in
theorem T_Tape_kindOfWord_0 {d : Nat} {kd : ZK} {m : ZM} {q : Int → ZM → Prop} {v0 v1 : Int} (h : (zobj kd v0 6 ∧ ∃ q1, CtI d M_Tape_isWord [(2, v0), (3, 1), (0, v1)] kd m q1 ∧ ∀ x2 m3, q1 x2 m3 → ((x2 = 0 → (zobj kd v0 6 ∧ ∃ q4, CtI d M_Tape_isWord [(2, v0), (3, 2), (0, v1)] kd m3 q4 ∧ ∀ x5 m6, q4 x5 m6 → ((x5 = 0 → (zobj kd v0 6 ∧ ∃ q7, CtI d M_Tape_isWord [(2, v0), (3, 3), (0, v1)] kd m6 q7 ∧ ∀ x8 m9, q7 x8 m9 → ((x8 = 0 → (zobj kd v0 6 ∧ ∃ q10, CtI d M_Tape_isWord [(2, v0), (3, 4), (0, v1)] kd m9 q10 ∧ ∀ x11 m12, q10 x11 m12 → ((x11 = 0 → (zobj kd v0 6 ∧ ∃ q13, CtI d M_Tape_isWord [(2, v0), (3, 5), (0, v1)] kd m12 q13 ∧ ∀ x14 m15, q13 x14 m15 → ((x14 = 0 → (zobj kd v0 6 ∧ ∃ q16, CtI d M_Tape_isWord [(2, v0), (3, 6), (0, v1)] kd m15 q16 ∧ ∀ x17 m18, q16 x17 m18 → ((x17 = 0 → (zobj kd v0 6 ∧ ∃ q19, CtI d M_Tape_isWord [(2, v0), (3, 7), (0, v1)] kd m18 q19 ∧ ∀ x20 m21, q19 x20 m21 → ((x20 = 0 → q 0 m21) ∧ (¬ x20 = 0 → q 7 m21)))) ∧ (¬ x17 = 0 → q 6 m18)))) ∧ (¬ x14 = 0 → q 5 m15)))) ∧ (¬ x11 = 0 → q 4 m12)))) ∧ (¬ x8 = 0 → q 3 m9)))) ∧ (¬ x5 = 0 → q 2 m6)))) ∧ (¬ x2 = 0 → q 1 m3)))) : Ev (d + 1) M_Tape_kindOfWord 0 0 0 [(2, v0), (0, v1)] [] kd m (zqI kd q) := by
  refine EvX.blk (pc' := 4) [(.aload_n 0, 0, 0), (.ldc 107, 1, 1), (.iload_n 1, 0, 0)] (by decide +kernel) ⟨z_Tape_107, trivial⟩ ?_
  show Ev (d + 1) M_Tape_kindOfWord 0 0 4 [(2, v0), (0, v1)] [(0, v1), (3, 1), (2, v0)] kd m (zqI kd q)
  obtain ⟨ov, h⟩ := h
  obtain ⟨q1, hq, h⟩ := h
  refine EvX.callV (c := 6) (mc := 0) (ms := 0) (as := [(3, 1), (0, v1)]) (st := []) (by decide +kernel) l_Tape_41 k_Tape_isWord v_Tape_isWord a_Tape_isWord (by decide) (Nat.le_of_ble_eq_true rfl) rfl ov hq (fun r kd1 m3 hr => ?_)
  obtain ⟨x2, rfl, hk, hr⟩ := hr
  subst kd1
  have h := h x2 m3 hr
  show Ev (d + 1) M_Tape_kindOfWord 0 0 7 [(2, v0), (0, v1)] [(0, x2)] kd m3 (zqI kd q)
  refine EvX.if_eq (off := 5) (tgt := 12) (by decide +kernel) (by decide) (fun hc => ?_) (fun hc => ?_)
  · have h := h.1 hc
    refine EvX.blk (pc' := 16) [(.aload_n 0, 0, 0), (.ldc 109, 1, 2), (.iload_n 1, 0, 0)] (by decide +kernel) ⟨z_Tape_109, trivial⟩ ?_
    show Ev (d + 1) M_Tape_kindOfWord 0 0 16 [(2, v0), (0, v1)] [(0, v1), (3, 2), (2, v0)] kd m3 (zqI kd q)
    obtain ⟨ov, h⟩ := h
    obtain ⟨q4, hq, h⟩ := h
    refine EvX.callV (c := 6) (mc := 0) (ms := 0) (as := [(3, 2), (0, v1)]) (st := []) (by decide +kernel) l_Tape_41 k_Tape_isWord v_Tape_isWord a_Tape_isWord (by decide) (Nat.le_of_ble_eq_true rfl) rfl ov hq (fun r kd1 m6 hr => ?_)
    obtain ⟨x5, rfl, hk, hr⟩ := hr
    subst kd1
    have h := h x5 m6 hr
    show Ev (d + 1) M_Tape_kindOfWord 0 0 19 [(2, v0), (0, v1)] [(0, x5)] kd m6 (zqI kd q)
    refine EvX.if_eq (off := 5) (tgt := 24) (by decide +kernel) (by decide) (fun hc => ?_) (fun hc => ?_)
    · have h := h.1 hc
      refine EvX.blk (pc' := 28) [(.aload_n 0, 0, 0), (.ldc 111, 1, 3), (.iload_n 1, 0, 0)] (by decide +kernel) ⟨z_Tape_111, trivial⟩ ?_
      show Ev (d + 1) M_Tape_kindOfWord 0 0 28 [(2, v0), (0, v1)] [(0, v1), (3, 3), (2, v0)] kd m6 (zqI kd q)
      obtain ⟨ov, h⟩ := h
      obtain ⟨q7, hq, h⟩ := h
      refine EvX.callV (c := 6) (mc := 0) (ms := 0) (as := [(3, 3), (0, v1)]) (st := []) (by decide +kernel) l_Tape_41 k_Tape_isWord v_Tape_isWord a_Tape_isWord (by decide) (Nat.le_of_ble_eq_true rfl) rfl ov hq (fun r kd1 m9 hr => ?_)
      obtain ⟨x8, rfl, hk, hr⟩ := hr
      subst kd1
      have h := h x8 m9 hr
      show Ev (d + 1) M_Tape_kindOfWord 0 0 31 [(2, v0), (0, v1)] [(0, x8)] kd m9 (zqI kd q)
      refine EvX.if_eq (off := 5) (tgt := 36) (by decide +kernel) (by decide) (fun hc => ?_) (fun hc => ?_)
      · have h := h.1 hc
        refine EvX.blk (pc' := 40) [(.aload_n 0, 0, 0), (.ldc 113, 1, 4), (.iload_n 1, 0, 0)] (by decide +kernel) ⟨z_Tape_113, trivial⟩ ?_
        show Ev (d + 1) M_Tape_kindOfWord 0 0 40 [(2, v0), (0, v1)] [(0, v1), (3, 4), (2, v0)] kd m9 (zqI kd q)
        obtain ⟨ov, h⟩ := h
        obtain ⟨q10, hq, h⟩ := h
        refine EvX.callV (c := 6) (mc := 0) (ms := 0) (as := [(3, 4), (0, v1)]) (st := []) (by decide +kernel) l_Tape_41 k_Tape_isWord v_Tape_isWord a_Tape_isWord (by decide) (Nat.le_of_ble_eq_true rfl) rfl ov hq (fun r kd1 m12 hr => ?_)
        obtain ⟨x11, rfl, hk, hr⟩ := hr
        subst kd1
        have h := h x11 m12 hr
        show Ev (d + 1) M_Tape_kindOfWord 0 0 43 [(2, v0), (0, v1)] [(0, x11)] kd m12 (zqI kd q)
        refine EvX.if_eq (off := 5) (tgt := 48) (by decide +kernel) (by decide) (fun hc => ?_) (fun hc => ?_)
        · have h := h.1 hc
          refine EvX.blk (pc' := 52) [(.aload_n 0, 0, 0), (.ldc 115, 1, 5), (.iload_n 1, 0, 0)] (by decide +kernel) ⟨z_Tape_115, trivial⟩ ?_
          show Ev (d + 1) M_Tape_kindOfWord 0 0 52 [(2, v0), (0, v1)] [(0, v1), (3, 5), (2, v0)] kd m12 (zqI kd q)
          obtain ⟨ov, h⟩ := h
          obtain ⟨q13, hq, h⟩ := h
          refine EvX.callV (c := 6) (mc := 0) (ms := 0) (as := [(3, 5), (0, v1)]) (st := []) (by decide +kernel) l_Tape_41 k_Tape_isWord v_Tape_isWord a_Tape_isWord (by decide) (Nat.le_of_ble_eq_true rfl) rfl ov hq (fun r kd1 m15 hr => ?_)
          obtain ⟨x14, rfl, hk, hr⟩ := hr
          subst kd1
          have h := h x14 m15 hr
          show Ev (d + 1) M_Tape_kindOfWord 0 0 55 [(2, v0), (0, v1)] [(0, x14)] kd m15 (zqI kd q)
          refine EvX.if_eq (off := 5) (tgt := 60) (by decide +kernel) (by decide) (fun hc => ?_) (fun hc => ?_)
          · have h := h.1 hc
            refine EvX.blk (pc' := 64) [(.aload_n 0, 0, 0), (.ldc 117, 1, 6), (.iload_n 1, 0, 0)] (by decide +kernel) ⟨z_Tape_117, trivial⟩ ?_
            show Ev (d + 1) M_Tape_kindOfWord 0 0 64 [(2, v0), (0, v1)] [(0, v1), (3, 6), (2, v0)] kd m15 (zqI kd q)
            obtain ⟨ov, h⟩ := h
            obtain ⟨q16, hq, h⟩ := h
            refine EvX.callV (c := 6) (mc := 0) (ms := 0) (as := [(3, 6), (0, v1)]) (st := []) (by decide +kernel) l_Tape_41 k_Tape_isWord v_Tape_isWord a_Tape_isWord (by decide) (Nat.le_of_ble_eq_true rfl) rfl ov hq (fun r kd1 m18 hr => ?_)
            obtain ⟨x17, rfl, hk, hr⟩ := hr
            subst kd1
            have h := h x17 m18 hr
            show Ev (d + 1) M_Tape_kindOfWord 0 0 67 [(2, v0), (0, v1)] [(0, x17)] kd m18 (zqI kd q)
            refine EvX.if_eq (off := 6) (tgt := 73) (by decide +kernel) (by decide) (fun hc => ?_) (fun hc => ?_)
            · have h := h.1 hc
              refine EvX.blk (pc' := 77) [(.aload_n 0, 0, 0), (.ldc 119, 1, 7), (.iload_n 1, 0, 0)] (by decide +kernel) ⟨z_Tape_119, trivial⟩ ?_
              show Ev (d + 1) M_Tape_kindOfWord 0 0 77 [(2, v0), (0, v1)] [(0, v1), (3, 7), (2, v0)] kd m18 (zqI kd q)
              obtain ⟨ov, h⟩ := h
              obtain ⟨q19, hq, h⟩ := h
              refine EvX.callV (c := 6) (mc := 0) (ms := 0) (as := [(3, 7), (0, v1)]) (st := []) (by decide +kernel) l_Tape_41 k_Tape_isWord v_Tape_isWord a_Tape_isWord (by decide) (Nat.le_of_ble_eq_true rfl) rfl ov hq (fun r kd1 m21 hr => ?_)
              obtain ⟨x20, rfl, hk, hr⟩ := hr
              subst kd1
              have h := h x20 m21 hr
              show Ev (d + 1) M_Tape_kindOfWord 0 0 80 [(2, v0), (0, v1)] [(0, x20)] kd m21 (zqI kd q)
              refine EvX.if_eq (off := 8) (tgt := 88) (by decide +kernel) (by decide) (fun hc => ?_) (fun hc => ?_)
              · have h := h.1 hc
                refine EvX.blk (pc' := 89) [(.iconst 0, 0, 0)] (by decide +kernel) trivial ?_
                show Ev (d + 1) M_Tape_kindOfWord 0 0 89 [(2, v0), (0, v1)] [(0, 0)] kd m21 (zqI kd q)
                exact EvX.ret (r := (0, 0)) (by decide +kernel) rfl ⟨_, rfl, rfl, h⟩
              · have h := h.2 hc
                refine EvX.blk (pc' := 85) [(.bipush 7, 0, 0)] (by decide +kernel) trivial ?_
                show Ev (d + 1) M_Tape_kindOfWord 0 0 85 [(2, v0), (0, v1)] [(0, 7)] kd m21 (zqI kd q)
                refine EvX.goto (off := 4) (tgt := 89) (by decide +kernel) (by decide) ?_
                exact EvX.ret (r := (0, 7)) (by decide +kernel) rfl ⟨_, rfl, rfl, h⟩
            · have h := h.2 hc
              refine EvX.blk (pc' := 72) [(.bipush 6, 0, 0)] (by decide +kernel) trivial ?_
              show Ev (d + 1) M_Tape_kindOfWord 0 0 72 [(2, v0), (0, v1)] [(0, 6)] kd m18 (zqI kd q)
              exact EvX.ret (r := (0, 6)) (by decide +kernel) rfl ⟨_, rfl, rfl, h⟩
          · have h := h.2 hc
            refine EvX.blk (pc' := 59) [(.iconst 5, 0, 0)] (by decide +kernel) trivial ?_
            show Ev (d + 1) M_Tape_kindOfWord 0 0 59 [(2, v0), (0, v1)] [(0, 5)] kd m15 (zqI kd q)
            exact EvX.ret (r := (0, 5)) (by decide +kernel) rfl ⟨_, rfl, rfl, h⟩
        · have h := h.2 hc
          refine EvX.blk (pc' := 47) [(.iconst 4, 0, 0)] (by decide +kernel) trivial ?_
          show Ev (d + 1) M_Tape_kindOfWord 0 0 47 [(2, v0), (0, v1)] [(0, 4)] kd m12 (zqI kd q)
          exact EvX.ret (r := (0, 4)) (by decide +kernel) rfl ⟨_, rfl, rfl, h⟩
      · have h := h.2 hc
        refine EvX.blk (pc' := 35) [(.iconst 3, 0, 0)] (by decide +kernel) trivial ?_
        show Ev (d + 1) M_Tape_kindOfWord 0 0 35 [(2, v0), (0, v1)] [(0, 3)] kd m9 (zqI kd q)
        exact EvX.ret (r := (0, 3)) (by decide +kernel) rfl ⟨_, rfl, rfl, h⟩
    · have h := h.2 hc
      refine EvX.blk (pc' := 23) [(.iconst 2, 0, 0)] (by decide +kernel) trivial ?_
      show Ev (d + 1) M_Tape_kindOfWord 0 0 23 [(2, v0), (0, v1)] [(0, 2)] kd m6 (zqI kd q)
      exact EvX.ret (r := (0, 2)) (by decide +kernel) rfl ⟨_, rfl, rfl, h⟩
  · have h := h.2 hc
    refine EvX.blk (pc' := 11) [(.iconst 1, 0, 0)] (by decide +kernel) trivial ?_
    show Ev (d + 1) M_Tape_kindOfWord 0 0 11 [(2, v0), (0, v1)] [(0, 1)] kd m3 (zqI kd q)
    exact EvX.ret (r := (0, 1)) (by decide +kernel) rfl ⟨_, rfl, rfl, h⟩
theorem S_Tape_kindOfWord {d : Nat} {kd : ZK} {m : ZM} {q : Int → ZM → Prop} {v0 v1 : Int} (h : (zobj kd v0 6 ∧ ∃ q1, CtI d M_Tape_isWord [(2, v0), (3, 1), (0, v1)] kd m q1 ∧ ∀ x2 m3, q1 x2 m3 → ((x2 = 0 → (zobj kd v0 6 ∧ ∃ q4, CtI d M_Tape_isWord [(2, v0), (3, 2), (0, v1)] kd m3 q4 ∧ ∀ x5 m6, q4 x5 m6 → ((x5 = 0 → (zobj kd v0 6 ∧ ∃ q7, CtI d M_Tape_isWord [(2, v0), (3, 3), (0, v1)] kd m6 q7 ∧ ∀ x8 m9, q7 x8 m9 → ((x8 = 0 → (zobj kd v0 6 ∧ ∃ q10, CtI d M_Tape_isWord [(2, v0), (3, 4), (0, v1)] kd m9 q10 ∧ ∀ x11 m12, q10 x11 m12 → ((x11 = 0 → (zobj kd v0 6 ∧ ∃ q13, CtI d M_Tape_isWord [(2, v0), (3, 5), (0, v1)] kd m12 q13 ∧ ∀ x14 m15, q13 x14 m15 → ((x14 = 0 → (zobj kd v0 6 ∧ ∃ q16, CtI d M_Tape_isWord [(2, v0), (3, 6), (0, v1)] kd m15 q16 ∧ ∀ x17 m18, q16 x17 m18 → ((x17 = 0 → (zobj kd v0 6 ∧ ∃ q19, CtI d M_Tape_isWord [(2, v0), (3, 7), (0, v1)] kd m18 q19 ∧ ∀ x20 m21, q19 x20 m21 → ((x20 = 0 → q 0 m21) ∧ (¬ x20 = 0 → q 7 m21)))) ∧ (¬ x17 = 0 → q 6 m18)))) ∧ (¬ x14 = 0 → q 5 m15)))) ∧ (¬ x11 = 0 → q 4 m12)))) ∧ (¬ x8 = 0 → q 3 m9)))) ∧ (¬ x5 = 0 → q 2 m6)))) ∧ (¬ x2 = 0 → q 1 m3)))) : CtI (d + 1) M_Tape_kindOfWord [(2, v0), (0, v1)] kd m q :=
  Ct.start k_Tape_kindOfWord (Nat.le_of_ble_eq_true rfl) ⟨1, Or.inr (Or.inl ⟨rfl, rfl⟩)⟩ (T_Tape_kindOfWord_0 h)
set_option maxRecDepth 20000 in
set_option maxHeartbeats 1000000 in
theorem T_Tape_behindWord_0 {d : Nat} {kd : ZK} {m : ZM} {q : Int → ZM → Prop} {v0 : Int} (h : (zobj kd v0 6 ∧ (Ev (d + 1) M_Tape_behindWord 0 0 5 [(2, v0), (0, m v0 2)] [] kd m (zqI kd q)))) : Ev (d + 1) M_Tape_behindWord 0 0 0 [(2, v0), zJ] [] kd m (zqI kd q) := by
  obtain ⟨o1, h⟩ := h
  refine EvX.blk (pc' := 5) [(.aload_n 0, 0, 0), (.getfield 19, 6, 2), (.istore_n 1, 0, 0)] (by decide +kernel) ⟨g_Tape_19, trivial⟩ ⟨o1, ?_⟩
  show Ev (d + 1) M_Tape_behindWord 0 0 5 [(2, v0), (0, m v0 2)] [] kd m (zqI kd q)
  exact h
theorem S_Tape_behindWord {d : Nat} {kd : ZK} {m : ZM} {q : Int → ZM → Prop} {v0 : Int} (h : (zobj kd v0 6 ∧ (Ev (d + 1) M_Tape_behindWord 0 0 5 [(2, v0), (0, m v0 2)] [] kd m (zqI kd q)))) : CtI (d + 1) M_Tape_behindWord [(2, v0)] kd m q :=
  Ct.start k_Tape_behindWord (Nat.le_of_ble_eq_true rfl) ⟨1, Or.inr (Or.inl ⟨rfl, rfl⟩)⟩ (T_Tape_behindWord_0 h)
set_option maxRecDepth 20000 in
set_option maxHeartbeats 1000000 in
theorem T_Tape_behindWord_5 {d : Nat} {kd : ZK} {m : ZM} {q : Int → ZM → Prop} {v0 v1 : Int} (h : (zobj kd v0 6 ∧ (((m v0 1) ≤ v1 → q v1 m) ∧ (¬ (m v0 1) ≤ v1 → (zobj kd v0 6 ∧ zIn kd (m v0 0) 0 v1 ∧ (((m (m v0 0) v1) < 97 → q v1 m) ∧ (¬ (m (m v0 0) v1) < 97 → (zobj kd v0 6 ∧ zIn kd (m v0 0) 0 v1 ∧ ((122 < (m (m v0 0) v1) → q v1 m) ∧ (¬ 122 < (m (m v0 0) v1) → (Ev (d + 1) M_Tape_behindWord 0 0 5 [(2, v0), (0, iw (v1 + 1))] [] kd m (zqI kd q)))))))))))) : Ev (d + 1) M_Tape_behindWord 0 0 5 [(2, v0), (0, v1)] [] kd m (zqI kd q) := by
  obtain ⟨o1, h⟩ := h
  refine EvX.blk (pc' := 10) [(.iload_n 1, 0, 0), (.aload_n 0, 0, 0), (.getfield 15, 6, 1)] (by decide +kernel) ⟨g_Tape_15, trivial⟩ ⟨o1, ?_⟩
  show Ev (d + 1) M_Tape_behindWord 0 0 10 [(2, v0), (0, v1)] [(0, m v0 1), (0, v1)] kd m (zqI kd q)
  refine EvX.icmp_ge (off := 31) (tgt := 41) (by decide +kernel) (by decide) (fun hc => ?_) (fun hc => ?_)
  · have h := h.1 hc
    refine EvX.blk (pc' := 42) [(.iload_n 1, 0, 0)] (by decide +kernel) trivial ?_
    show Ev (d + 1) M_Tape_behindWord 0 0 42 [(2, v0), (0, v1)] [(0, v1)] kd m (zqI kd q)
    exact EvX.ret (r := (0, v1)) (by decide +kernel) rfl ⟨_, rfl, rfl, h⟩
  · have h := h.2 hc
    obtain ⟨o1, o2, h⟩ := h
    refine EvX.blk (pc' := 21) [(.aload_n 0, 0, 0), (.getfield 11, 6, 0), (.iload_n 1, 0, 0), (.iaload, 0, 0), (.bipush 97, 0, 0)] (by decide +kernel) ⟨g_Tape_11, trivial⟩ ⟨o1, o2, ?_⟩
    show Ev (d + 1) M_Tape_behindWord 0 0 21 [(2, v0), (0, v1)] [(0, 97), (0, m (m v0 0) v1)] kd m (zqI kd q)
    refine EvX.icmp_lt (off := 20) (tgt := 41) (by decide +kernel) (by decide) (fun hc => ?_) (fun hc => ?_)
    · have h := h.1 hc
      refine EvX.blk (pc' := 42) [(.iload_n 1, 0, 0)] (by decide +kernel) trivial ?_
      show Ev (d + 1) M_Tape_behindWord 0 0 42 [(2, v0), (0, v1)] [(0, v1)] kd m (zqI kd q)
      exact EvX.ret (r := (0, v1)) (by decide +kernel) rfl ⟨_, rfl, rfl, h⟩
    · have h := h.2 hc
      obtain ⟨o1, o2, h⟩ := h
      refine EvX.blk (pc' := 32) [(.aload_n 0, 0, 0), (.getfield 11, 6, 0), (.iload_n 1, 0, 0), (.iaload, 0, 0), (.bipush 122, 0, 0)] (by decide +kernel) ⟨g_Tape_11, trivial⟩ ⟨o1, o2, ?_⟩
      show Ev (d + 1) M_Tape_behindWord 0 0 32 [(2, v0), (0, v1)] [(0, 122), (0, m (m v0 0) v1)] kd m (zqI kd q)
      refine EvX.icmp_gt (off := 9) (tgt := 41) (by decide +kernel) (by decide) (fun hc => ?_) (fun hc => ?_)
      · have h := h.1 hc
        refine EvX.blk (pc' := 42) [(.iload_n 1, 0, 0)] (by decide +kernel) trivial ?_
        show Ev (d + 1) M_Tape_behindWord 0 0 42 [(2, v0), (0, v1)] [(0, v1)] kd m (zqI kd q)
        exact EvX.ret (r := (0, v1)) (by decide +kernel) rfl ⟨_, rfl, rfl, h⟩
      · have h := h.2 hc
        refine EvX.blk (pc' := 38) [(.iinc 1 1, 0, 0)] (by decide +kernel) trivial ?_
        show Ev (d + 1) M_Tape_behindWord 0 0 38 [(2, v0), (0, iw (v1 + 1))] [] kd m (zqI kd q)
        refine EvX.goto (off := (-33)) (tgt := 5) (by decide +kernel) (by decide) ?_
        exact h
set_option maxRecDepth 20000 in
set_option maxHeartbeats 1000000 in
theorem T_Tape_isWord_0 {d : Nat} {kd : ZK} {m : ZM} {q : Int → ZM → Prop} {v0 v1 v2 : Int} (h : (zobj kd v0 6 ∧ ((v1).toNat < zsN ∧ ∃ q1, CtI d M_Str_length [(3, v1)] kd m q1 ∧ ∀ x2 m3, q1 x2 m3 → (((iw (v2 - (m v0 2))) = x2 → (Ev (d + 1) M_Tape_isWord 0 0 17 [(2, v0), (3, v1), zJ, (0, 0)] [] kd m3 (zqI kd q))) ∧ (¬ (iw (v2 - (m v0 2))) = x2 → q 0 m3))))) : Ev (d + 1) M_Tape_isWord 0 0 0 [(2, v0), (3, v1), (0, v2), zJ] [] kd m (zqI kd q) := by
  obtain ⟨o1, h⟩ := h
  refine EvX.blk (pc' := 7) [(.iload_n 2, 0, 0), (.aload_n 0, 0, 0), (.getfield 19, 6, 2), (.isub, 0, 0), (.aload_n 1, 0, 0)] (by decide +kernel) ⟨g_Tape_19, trivial⟩ ⟨o1, ?_⟩
  show Ev (d + 1) M_Tape_isWord 0 0 7 [(2, v0), (3, v1), (0, v2), zJ] [(3, v1), (0, iw (v2 - (m v0 2)))] kd m (zqI kd q)
  obtain ⟨oi, h⟩ := h
  obtain ⟨q1, hq, h⟩ := h
  refine EvX.callT (mc := 0) (ms := 0) (as := []) (st := [(0, iw (v2 - (m v0 2)))]) (by decide +kernel) l_Tape_121 k_Str_length v_Str_length a_Str_length (by decide) (Nat.le_of_ble_eq_true rfl) rfl oi hq (fun r kd1 m3 hr => ?_)
  obtain ⟨x2, rfl, hk, hr⟩ := hr
  subst kd1
  have h := h x2 m3 hr
  show Ev (d + 1) M_Tape_isWord 0 0 10 [(2, v0), (3, v1), (0, v2), zJ] [(0, x2), (0, iw (v2 - (m v0 2)))] kd m3 (zqI kd q)
  refine EvX.icmp_eq (off := 5) (tgt := 15) (by decide +kernel) (by decide) (fun hc => ?_) (fun hc => ?_)
  · have h := h.1 hc
    refine EvX.blk (pc' := 17) [(.iconst 0, 0, 0), (.istore_n 3, 0, 0)] (by decide +kernel) trivial ?_
    show Ev (d + 1) M_Tape_isWord 0 0 17 [(2, v0), (3, v1), (0, v2), (0, 0)] [] kd m3 (zqI kd q)
    exact EvX.weak (ls2 := [(2, v0), (3, v1), zJ, (0, 0)]) (zwk_of ⟨Or.inr rfl, Or.inr rfl, Or.inl rfl, Or.inr rfl, trivial⟩) h
  · have h := h.2 hc
    refine EvX.blk (pc' := 14) [(.iconst 0, 0, 0)] (by decide +kernel) trivial ?_
    show Ev (d + 1) M_Tape_isWord 0 0 14 [(2, v0), (3, v1), (0, v2), zJ] [(0, 0)] kd m3 (zqI kd q)
    exact EvX.ret (r := (0, 0)) (by decide +kernel) ⟨rfl, by decide, by decide⟩ ⟨_, rfl, rfl, h⟩
theorem S_Tape_isWord {d : Nat} {kd : ZK} {m : ZM} {q : Int → ZM → Prop} {v0 v1 v2 : Int} (h : (zobj kd v0 6 ∧ ((v1).toNat < zsN ∧ ∃ q1, CtI d M_Str_length [(3, v1)] kd m q1 ∧ ∀ x2 m3, q1 x2 m3 → (((iw (v2 - (m v0 2))) = x2 → (Ev (d + 1) M_Tape_isWord 0 0 17 [(2, v0), (3, v1), zJ, (0, 0)] [] kd m3 (zqI kd q))) ∧ (¬ (iw (v2 - (m v0 2))) = x2 → q 0 m3))))) : CtI (d + 1) M_Tape_isWord [(2, v0), (3, v1), (0, v2)] kd m q :=
  Ct.start k_Tape_isWord (Nat.le_of_ble_eq_true rfl) ⟨2, Or.inr (Or.inr (Or.inl ⟨rfl, rfl⟩))⟩ (T_Tape_isWord_0 h)
set_option maxRecDepth 20000 in
set_option maxHeartbeats 1000000 in
theorem T_Tape_isWord_17 {d : Nat} {kd : ZK} {m : ZM} {q : Int → ZM → Prop} {v0 v1 v3 : Int} (h : ((v1).toNat < zsN ∧ ∃ q1, CtI d M_Str_length [(3, v1)] kd m q1 ∧ ∀ x2 m3, q1 x2 m3 → ((x2 ≤ v3 → q 1 m3) ∧ (¬ x2 ≤ v3 → (zobj kd v0 6 ∧ zobj kd v0 6 ∧ zIn kd (m3 v0 0) 0 (iw ((m3 v0 2) + v3)) ∧ ((v1).toNat < zsN ∧ ∃ q4, CtI d M_Str_charAt [(3, v1), (0, v3)] kd m3 q4 ∧ ∀ x5 m6, q4 x5 m6 → (((m3 (m3 v0 0) (iw ((m3 v0 2) + v3))) = x5 → (Ev (d + 1) M_Tape_isWord 0 0 17 [(2, v0), (3, v1), zJ, (0, iw (v3 + 1))] [] kd m6 (zqI kd q))) ∧ (¬ (m3 (m3 v0 0) (iw ((m3 v0 2) + v3))) = x5 → q 0 m6)))))))) : Ev (d + 1) M_Tape_isWord 0 0 17 [(2, v0), (3, v1), zJ, (0, v3)] [] kd m (zqI kd q) := by
  refine EvX.blk (pc' := 19) [(.iload_n 3, 0, 0), (.aload_n 1, 0, 0)] (by decide +kernel) trivial ?_
  show Ev (d + 1) M_Tape_isWord 0 0 19 [(2, v0), (3, v1), zJ, (0, v3)] [(3, v1), (0, v3)] kd m (zqI kd q)
  obtain ⟨oi, h⟩ := h
  obtain ⟨q1, hq, h⟩ := h
  refine EvX.callT (mc := 0) (ms := 0) (as := []) (st := [(0, v3)]) (by decide +kernel) l_Tape_121 k_Str_length v_Str_length a_Str_length (by decide) (Nat.le_of_ble_eq_true rfl) rfl oi hq (fun r kd1 m3 hr => ?_)
  obtain ⟨x2, rfl, hk, hr⟩ := hr
  subst kd1
  have h := h x2 m3 hr
  show Ev (d + 1) M_Tape_isWord 0 0 22 [(2, v0), (3, v1), zJ, (0, v3)] [(0, x2), (0, v3)] kd m3 (zqI kd q)
  refine EvX.icmp_ge (off := 30) (tgt := 52) (by decide +kernel) (by decide) (fun hc => ?_) (fun hc => ?_)
  · have h := h.1 hc
    refine EvX.blk (pc' := 53) [(.iconst 1, 0, 0)] (by decide +kernel) trivial ?_
    show Ev (d + 1) M_Tape_isWord 0 0 53 [(2, v0), (3, v1), zJ, (0, v3)] [(0, 1)] kd m3 (zqI kd q)
    exact EvX.ret (r := (0, 1)) (by decide +kernel) ⟨rfl, by decide, by decide⟩ ⟨_, rfl, rfl, h⟩
  · have h := h.2 hc
    obtain ⟨o1, o2, o3, h⟩ := h
    refine EvX.blk (pc' := 38) [(.aload_n 0, 0, 0), (.getfield 11, 6, 0), (.aload_n 0, 0, 0), (.getfield 19, 6, 2), (.iload_n 3, 0, 0), (.iadd, 0, 0), (.iaload, 0, 0), (.aload_n 1, 0, 0), (.iload_n 3, 0, 0)] (by decide +kernel) ⟨g_Tape_11, g_Tape_19, trivial⟩ ⟨o1, o2, o3, ?_⟩
    show Ev (d + 1) M_Tape_isWord 0 0 38 [(2, v0), (3, v1), zJ, (0, v3)] [(0, v3), (3, v1), (0, m3 (m3 v0 0) (iw ((m3 v0 2) + v3)))] kd m3 (zqI kd q)
    obtain ⟨oi, h⟩ := h
    obtain ⟨q4, hq, h⟩ := h
    refine EvX.callT (mc := 0) (ms := 0) (as := [(0, v3)]) (st := [(0, m3 (m3 v0 0) (iw ((m3 v0 2) + v3)))]) (by decide +kernel) l_Tape_125 k_Str_charAt v_Str_charAt a_Str_charAt (by decide) (Nat.le_of_ble_eq_true rfl) rfl oi hq (fun r kd1 m6 hr => ?_)
    obtain ⟨x5, rfl, hk, hr⟩ := hr
    subst kd1
    have h := h x5 m6 hr
    show Ev (d + 1) M_Tape_isWord 0 0 41 [(2, v0), (3, v1), zJ, (0, v3)] [(0, x5), (0, m3 (m3 v0 0) (iw ((m3 v0 2) + v3)))] kd m6 (zqI kd q)
    refine EvX.icmp_eq (off := 5) (tgt := 46) (by decide +kernel) (by decide) (fun hc => ?_) (fun hc => ?_)
    · have h := h.1 hc
      refine EvX.blk (pc' := 49) [(.iinc 3 1, 0, 0)] (by decide +kernel) trivial ?_
      show Ev (d + 1) M_Tape_isWord 0 0 49 [(2, v0), (3, v1), zJ, (0, iw (v3 + 1))] [] kd m6 (zqI kd q)
      refine EvX.goto (off := (-32)) (tgt := 17) (by decide +kernel) (by decide) ?_
      exact h
    · have h := h.2 hc
      refine EvX.blk (pc' := 45) [(.iconst 0, 0, 0)] (by decide +kernel) trivial ?_
      show Ev (d + 1) M_Tape_isWord 0 0 45 [(2, v0), (3, v1), zJ, (0, v3)] [(0, 0)] kd m6 (zqI kd q)
      exact EvX.ret (r := (0, 0)) (by decide +kernel) ⟨rfl, by decide, by decide⟩ ⟨_, rfl, rfl, h⟩
set_option maxRecDepth 20000 in
set_option maxHeartbeats 1000000 in
theorem T_Tape_readNumber_0 {d : Nat} {kd : ZK} {m : ZM} {q : Int → ZM → Prop} {v0 v1 v2 : Int} (h : (zobj kd v0 6 ∧ (((m v0 3) = 0 → (zobj kd v0 6 ∧ ∃ q1, CtV d M_Tape_skipBlanks [(2, v0)] kd m q1 ∧ ∀ m3, q1 m3 → (zobj kd v0 6 ∧ (Ev (d + 1) M_Tape_readNumber 0 0 21 [(2, v0), (0, v1), (0, v2), (0, m3 v0 2), (0, 0)] [] kd m3 (zqI kd q))))) ∧ (¬ (m v0 3) = 0 → q v1 m)))) : Ev (d + 1) M_Tape_readNumber 0 0 0 [(2, v0), (0, v1), (0, v2), zJ, zJ] [] kd m (zqI kd q) := by
  obtain ⟨o1, h⟩ := h
  refine EvX.blk (pc' := 4) [(.aload_n 0, 0, 0), (.getfield 22, 6, 3)] (by decide +kernel) ⟨g_Tape_22, trivial⟩ ⟨o1, ?_⟩
  show Ev (d + 1) M_Tape_readNumber 0 0 4 [(2, v0), (0, v1), (0, v2), zJ, zJ] [(0, m v0 3)] kd m (zqI kd q)
  refine EvX.if_eq (off := 5) (tgt := 9) (by decide +kernel) (by decide) (fun hc => ?_) (fun hc => ?_)
  · have h := h.1 hc
    refine EvX.blk (pc' := 10) [(.aload_n 0, 0, 0)] (by decide +kernel) trivial ?_
    show Ev (d + 1) M_Tape_readNumber 0 0 10 [(2, v0), (0, v1), (0, v2), zJ, zJ] [(2, v0)] kd m (zqI kd q)
    obtain ⟨ov, h⟩ := h
    obtain ⟨q1, hq, h⟩ := h
    refine EvX.callV (c := 6) (mc := 0) (ms := 0) (as := []) (st := []) (by decide +kernel) l_Tape_29 k_Tape_skipBlanks v_Tape_skipBlanks a_Tape_skipBlanks (by decide) (Nat.le_of_ble_eq_true rfl) rfl ov hq (fun r kd1 m3 hr => ?_)
    obtain ⟨rfl, hk, hr⟩ := hr
    subst kd1
    have h := h m3 hr
    show Ev (d + 1) M_Tape_readNumber 0 0 13 [(2, v0), (0, v1), (0, v2), zJ, zJ] [] kd m3 (zqI kd q)
    obtain ⟨o1, h⟩ := h
    refine EvX.blk (pc' := 21) [(.aload_n 0, 0, 0), (.getfield 19, 6, 2), (.istore_n 3, 0, 0), (.iconst 0, 0, 0), (.istore 4, 0, 0)] (by decide +kernel) ⟨g_Tape_19, trivial⟩ ⟨o1, ?_⟩
    show Ev (d + 1) M_Tape_readNumber 0 0 21 [(2, v0), (0, v1), (0, v2), (0, m3 v0 2), (0, 0)] [] kd m3 (zqI kd q)
    exact h
  · have h := h.2 hc
    refine EvX.blk (pc' := 8) [(.iload_n 1, 0, 0)] (by decide +kernel) trivial ?_
    show Ev (d + 1) M_Tape_readNumber 0 0 8 [(2, v0), (0, v1), (0, v2), zJ, zJ] [(0, v1)] kd m (zqI kd q)
    exact EvX.ret (r := (0, v1)) (by decide +kernel) rfl ⟨_, rfl, rfl, h⟩
theorem S_Tape_readNumber {d : Nat} {kd : ZK} {m : ZM} {q : Int → ZM → Prop} {v0 v1 v2 : Int} (h : (zobj kd v0 6 ∧ (((m v0 3) = 0 → (zobj kd v0 6 ∧ ∃ q1, CtV d M_Tape_skipBlanks [(2, v0)] kd m q1 ∧ ∀ m3, q1 m3 → (zobj kd v0 6 ∧ (Ev (d + 1) M_Tape_readNumber 0 0 21 [(2, v0), (0, v1), (0, v2), (0, m3 v0 2), (0, 0)] [] kd m3 (zqI kd q))))) ∧ (¬ (m v0 3) = 0 → q v1 m)))) : CtI (d + 1) M_Tape_readNumber [(2, v0), (0, v1), (0, v2)] kd m q :=
  Ct.start k_Tape_readNumber (Nat.le_of_ble_eq_true rfl) ⟨1, Or.inr (Or.inl ⟨rfl, rfl⟩)⟩ (T_Tape_readNumber_0 h)
set_option maxRecDepth 20000 in
set_option maxHeartbeats 1000000 in
theorem T_Tape_readNumber_21 {d : Nat} {kd : ZK} {m : ZM} {q : Int → ZM → Prop} {v0 v1 v2 v3 v4 : Int} (h : (zobj kd v0 6 ∧ zobj kd v0 6 ∧ (((m v0 1) ≤ (m v0 2) → (Ev (d + 1) M_Tape_readNumber 0 0 99 [(2, v0), (0, v1), (0, v2), (0, v3), (0, v4)] [] kd m (zqI kd q))) ∧ (¬ (m v0 1) ≤ (m v0 2) → (zobj kd v0 6 ∧ zobj kd v0 6 ∧ zIn kd (m v0 0) 0 (m v0 2) ∧ (((m (m v0 0) (m v0 2)) < 48 → (Ev (d + 1) M_Tape_readNumber 0 0 99 [(2, v0), (0, v1), (0, v2), (0, v3), (0, v4)] [] kd m (zqI kd q))) ∧ (¬ (m (m v0 0) (m v0 2)) < 48 → (zobj kd v0 6 ∧ zobj kd v0 6 ∧ zIn kd (m v0 0) 0 (m v0 2) ∧ ((57 < (m (m v0 0) (m v0 2)) → (Ev (d + 1) M_Tape_readNumber 0 0 99 [(2, v0), (0, v1), (0, v2), (0, v3), (0, v4)] [] kd m (zqI kd q))) ∧ (¬ 57 < (m (m v0 0) (m v0 2)) → (zobj kd v0 6 ∧ zobj kd v0 6 ∧ zIn kd (m v0 0) 0 (m v0 2) ∧ (zobj kd v0 6 ∧ zobj kd v0 6 ∧ (Ev (d + 1) M_Tape_readNumber 0 0 21 [(2, v0), (0, v1), (0, v2), (0, v3), (0, zmin (iw ((iw ((iw (v4 * 10)) + (m (m v0 0) (m v0 2)))) - 48)) 1000)] [] kd (zup m v0 2 (iw ((m v0 2) + 1))) (zqI kd q)))))))))))))) : Ev (d + 1) M_Tape_readNumber 0 0 21 [(2, v0), (0, v1), (0, v2), (0, v3), (0, v4)] [] kd m (zqI kd q) := by
  obtain ⟨o1, o2, h⟩ := h
  refine EvX.blk (pc' := 29) [(.aload_n 0, 0, 0), (.getfield 19, 6, 2), (.aload_n 0, 0, 0), (.getfield 15, 6, 1)] (by decide +kernel) ⟨g_Tape_19, g_Tape_15, trivial⟩ ⟨o1, o2, ?_⟩
  show Ev (d + 1) M_Tape_readNumber 0 0 29 [(2, v0), (0, v1), (0, v2), (0, v3), (0, v4)] [(0, m v0 1), (0, m v0 2)] kd m (zqI kd q)
  refine EvX.icmp_ge (off := 70) (tgt := 99) (by decide +kernel) (by decide) (fun hc => ?_) (fun hc => ?_)
  · have h := h.1 hc
    exact h
  · have h := h.2 hc
    obtain ⟨o1, o2, o3, h⟩ := h
    refine EvX.blk (pc' := 43) [(.aload_n 0, 0, 0), (.getfield 11, 6, 0), (.aload_n 0, 0, 0), (.getfield 19, 6, 2), (.iaload, 0, 0), (.bipush 48, 0, 0)] (by decide +kernel) ⟨g_Tape_11, g_Tape_19, trivial⟩ ⟨o1, o2, o3, ?_⟩
    show Ev (d + 1) M_Tape_readNumber 0 0 43 [(2, v0), (0, v1), (0, v2), (0, v3), (0, v4)] [(0, 48), (0, m (m v0 0) (m v0 2))] kd m (zqI kd q)
    refine EvX.icmp_lt (off := 56) (tgt := 99) (by decide +kernel) (by decide) (fun hc => ?_) (fun hc => ?_)
    · have h := h.1 hc
      exact h
    · have h := h.2 hc
      obtain ⟨o1, o2, o3, h⟩ := h
      refine EvX.blk (pc' := 57) [(.aload_n 0, 0, 0), (.getfield 11, 6, 0), (.aload_n 0, 0, 0), (.getfield 19, 6, 2), (.iaload, 0, 0), (.bipush 57, 0, 0)] (by decide +kernel) ⟨g_Tape_11, g_Tape_19, trivial⟩ ⟨o1, o2, o3, ?_⟩
      show Ev (d + 1) M_Tape_readNumber 0 0 57 [(2, v0), (0, v1), (0, v2), (0, v3), (0, v4)] [(0, 57), (0, m (m v0 0) (m v0 2))] kd m (zqI kd q)
      refine EvX.icmp_gt (off := 42) (tgt := 99) (by decide +kernel) (by decide) (fun hc => ?_) (fun hc => ?_)
      · have h := h.1 hc
        exact h
      · have h := h.2 hc
        obtain ⟨o1, o2, o3, h⟩ := h
        refine EvX.blk (pc' := 81) [(.iload 4, 0, 0), (.bipush 10, 0, 0), (.imul, 0, 0), (.aload_n 0, 0, 0), (.getfield 11, 6, 0), (.aload_n 0, 0, 0), (.getfield 19, 6, 2), (.iaload, 0, 0), (.iadd, 0, 0), (.bipush 48, 0, 0), (.isub, 0, 0), (.sipush 1000, 0, 0)] (by decide +kernel) ⟨g_Tape_11, g_Tape_19, trivial⟩ ⟨o1, o2, o3, ?_⟩
        show Ev (d + 1) M_Tape_readNumber 0 0 81 [(2, v0), (0, v1), (0, v2), (0, v3), (0, v4)] [(0, 1000), (0, iw ((iw ((iw (v4 * 10)) + (m (m v0 0) (m v0 2)))) - 48))] kd m (zqI kd q)
        refine EvX.mmin' (by decide +kernel) y_Tape_129 (Nat.le_of_ble_eq_true rfl) ?_
        show Ev (d + 1) M_Tape_readNumber 0 0 84 [(2, v0), (0, v1), (0, v2), (0, v3), (0, v4)] [(0, zmin (iw ((iw ((iw (v4 * 10)) + (m (m v0 0) (m v0 2)))) - 48)) 1000)] kd m (zqI kd q)
        obtain ⟨o1, o2, h⟩ := h
        refine EvX.blk (pc' := 96) [(.istore 4, 0, 0), (.aload_n 0, 0, 0), (.dup, 0, 0), (.getfield 19, 6, 2), (.iconst 1, 0, 0), (.iadd, 0, 0), (.putfield 19, 6, 2)] (by decide +kernel) ⟨g_Tape_19, ⟨g_Tape_19, p_Tape_19⟩, trivial⟩ ⟨o1, rfl, o2, ?_⟩
        show Ev (d + 1) M_Tape_readNumber 0 0 96 [(2, v0), (0, v1), (0, v2), (0, v3), (0, zmin (iw ((iw ((iw (v4 * 10)) + (m (m v0 0) (m v0 2)))) - 48)) 1000)] [] kd (zup m v0 2 (iw ((m v0 2) + 1))) (zqI kd q)
        refine EvX.goto (off := (-75)) (tgt := 21) (by decide +kernel) (by decide) ?_
        exact h
set_option maxRecDepth 20000 in
set_option maxHeartbeats 1000000 in
theorem T_Tape_readNumber_99 {d : Nat} {kd : ZK} {m : ZM} {q : Int → ZM → Prop} {v0 v1 v2 v3 v4 : Int} (h : (zobj kd v0 6 ∧ (((m v0 2) ≠ v3 → ((v4 < v1 → (zobj kd v0 6 ∧ ∃ q1, CtV d M_Tape_blame [(2, v0), (0, v3), (0, 2)] kd m q1 ∧ ∀ m3, q1 m3 → q v1 m3)) ∧ (¬ v4 < v1 → ((v4 ≤ v2 → q v4 m) ∧ (¬ v4 ≤ v2 → (zobj kd v0 6 ∧ ∃ q4, CtV d M_Tape_blame [(2, v0), (0, v3), (0, 2)] kd m q4 ∧ ∀ m6, q4 m6 → q v1 m6)))))) ∧ (¬ (m v0 2) ≠ v3 → (zobj kd v0 6 ∧ ∃ q7, CtV d M_Tape_blame [(2, v0), (0, v3), (0, 1)] kd m q7 ∧ ∀ m9, q7 m9 → q v1 m9))))) : Ev (d + 1) M_Tape_readNumber 0 0 99 [(2, v0), (0, v1), (0, v2), (0, v3), (0, v4)] [] kd m (zqI kd q) := by
  obtain ⟨o1, h⟩ := h
  refine EvX.blk (pc' := 104) [(.aload_n 0, 0, 0), (.getfield 19, 6, 2), (.iload_n 3, 0, 0)] (by decide +kernel) ⟨g_Tape_19, trivial⟩ ⟨o1, ?_⟩
  show Ev (d + 1) M_Tape_readNumber 0 0 104 [(2, v0), (0, v1), (0, v2), (0, v3), (0, v4)] [(0, v3), (0, m v0 2)] kd m (zqI kd q)
  refine EvX.icmp_ne (off := 11) (tgt := 115) (by decide +kernel) (by decide) (fun hc => ?_) (fun hc => ?_)
  · have h := h.1 hc
    refine EvX.blk (pc' := 118) [(.iload 4, 0, 0), (.iload_n 1, 0, 0)] (by decide +kernel) trivial ?_
    show Ev (d + 1) M_Tape_readNumber 0 0 118 [(2, v0), (0, v1), (0, v2), (0, v3), (0, v4)] [(0, v1), (0, v4)] kd m (zqI kd q)
    refine EvX.icmp_lt (off := 9) (tgt := 127) (by decide +kernel) (by decide) (fun hc => ?_) (fun hc => ?_)
    · have h := h.1 hc
      refine EvX.blk (pc' := 130) [(.aload_n 0, 0, 0), (.iload_n 3, 0, 0), (.iconst 2, 0, 0)] (by decide +kernel) trivial ?_
      show Ev (d + 1) M_Tape_readNumber 0 0 130 [(2, v0), (0, v1), (0, v2), (0, v3), (0, v4)] [(0, 2), (0, v3), (2, v0)] kd m (zqI kd q)
      obtain ⟨ov, h⟩ := h
      obtain ⟨q1, hq, h⟩ := h
      refine EvX.callV (c := 6) (mc := 0) (ms := 0) (as := [(0, v3), (0, 2)]) (st := []) (by decide +kernel) l_Tape_45 k_Tape_blame v_Tape_blame a_Tape_blame (by decide) (Nat.le_of_ble_eq_true rfl) rfl ov hq (fun r kd1 m3 hr => ?_)
      obtain ⟨rfl, hk, hr⟩ := hr
      subst kd1
      have h := h m3 hr
      show Ev (d + 1) M_Tape_readNumber 0 0 133 [(2, v0), (0, v1), (0, v2), (0, v3), (0, v4)] [] kd m3 (zqI kd q)
      refine EvX.blk (pc' := 134) [(.iload_n 1, 0, 0)] (by decide +kernel) trivial ?_
      show Ev (d + 1) M_Tape_readNumber 0 0 134 [(2, v0), (0, v1), (0, v2), (0, v3), (0, v4)] [(0, v1)] kd m3 (zqI kd q)
      exact EvX.ret (r := (0, v1)) (by decide +kernel) rfl ⟨_, rfl, rfl, h⟩
    · have h := h.2 hc
      refine EvX.blk (pc' := 124) [(.iload 4, 0, 0), (.iload_n 2, 0, 0)] (by decide +kernel) trivial ?_
      show Ev (d + 1) M_Tape_readNumber 0 0 124 [(2, v0), (0, v1), (0, v2), (0, v3), (0, v4)] [(0, v2), (0, v4)] kd m (zqI kd q)
      refine EvX.icmp_le (off := 11) (tgt := 135) (by decide +kernel) (by decide) (fun hc => ?_) (fun hc => ?_)
      · have h := h.1 hc
        refine EvX.blk (pc' := 137) [(.iload 4, 0, 0)] (by decide +kernel) trivial ?_
        show Ev (d + 1) M_Tape_readNumber 0 0 137 [(2, v0), (0, v1), (0, v2), (0, v3), (0, v4)] [(0, v4)] kd m (zqI kd q)
        exact EvX.ret (r := (0, v4)) (by decide +kernel) rfl ⟨_, rfl, rfl, h⟩
      · have h := h.2 hc
        refine EvX.blk (pc' := 130) [(.aload_n 0, 0, 0), (.iload_n 3, 0, 0), (.iconst 2, 0, 0)] (by decide +kernel) trivial ?_
        show Ev (d + 1) M_Tape_readNumber 0 0 130 [(2, v0), (0, v1), (0, v2), (0, v3), (0, v4)] [(0, 2), (0, v3), (2, v0)] kd m (zqI kd q)
        obtain ⟨ov, h⟩ := h
        obtain ⟨q4, hq, h⟩ := h
        refine EvX.callV (c := 6) (mc := 0) (ms := 0) (as := [(0, v3), (0, 2)]) (st := []) (by decide +kernel) l_Tape_45 k_Tape_blame v_Tape_blame a_Tape_blame (by decide) (Nat.le_of_ble_eq_true rfl) rfl ov hq (fun r kd1 m6 hr => ?_)
        obtain ⟨rfl, hk, hr⟩ := hr
        subst kd1
        have h := h m6 hr
        show Ev (d + 1) M_Tape_readNumber 0 0 133 [(2, v0), (0, v1), (0, v2), (0, v3), (0, v4)] [] kd m6 (zqI kd q)
        refine EvX.blk (pc' := 134) [(.iload_n 1, 0, 0)] (by decide +kernel) trivial ?_
        show Ev (d + 1) M_Tape_readNumber 0 0 134 [(2, v0), (0, v1), (0, v2), (0, v3), (0, v4)] [(0, v1)] kd m6 (zqI kd q)
        exact EvX.ret (r := (0, v1)) (by decide +kernel) rfl ⟨_, rfl, rfl, h⟩
  · have h := h.2 hc
    refine EvX.blk (pc' := 110) [(.aload_n 0, 0, 0), (.iload_n 3, 0, 0), (.iconst 1, 0, 0)] (by decide +kernel) trivial ?_
    show Ev (d + 1) M_Tape_readNumber 0 0 110 [(2, v0), (0, v1), (0, v2), (0, v3), (0, v4)] [(0, 1), (0, v3), (2, v0)] kd m (zqI kd q)
    obtain ⟨ov, h⟩ := h
    obtain ⟨q7, hq, h⟩ := h
    refine EvX.callV (c := 6) (mc := 0) (ms := 0) (as := [(0, v3), (0, 1)]) (st := []) (by decide +kernel) l_Tape_45 k_Tape_blame v_Tape_blame a_Tape_blame (by decide) (Nat.le_of_ble_eq_true rfl) rfl ov hq (fun r kd1 m9 hr => ?_)
    obtain ⟨rfl, hk, hr⟩ := hr
    subst kd1
    have h := h m9 hr
    show Ev (d + 1) M_Tape_readNumber 0 0 113 [(2, v0), (0, v1), (0, v2), (0, v3), (0, v4)] [] kd m9 (zqI kd q)
    refine EvX.blk (pc' := 114) [(.iload_n 1, 0, 0)] (by decide +kernel) trivial ?_
    show Ev (d + 1) M_Tape_readNumber 0 0 114 [(2, v0), (0, v1), (0, v2), (0, v3), (0, v4)] [(0, v1)] kd m9 (zqI kd q)
    exact EvX.ret (r := (0, v1)) (by decide +kernel) rfl ⟨_, rfl, rfl, h⟩
set_option maxRecDepth 20000 in
set_option maxHeartbeats 1000000 in
theorem T_Tape_skipBlanks_0 {d : Nat} {kd : ZK} {m : ZM} {q : ZM → Prop} {v0 : Int} (h : (zobj kd v0 6 ∧ zobj kd v0 6 ∧ (((m v0 1) ≤ (m v0 2) → q m) ∧ (¬ (m v0 1) ≤ (m v0 2) → (zobj kd v0 6 ∧ zobj kd v0 6 ∧ zIn kd (m v0 0) 0 (m v0 2) ∧ (((m (m v0 0) (m v0 2)) ≠ 32 → q m) ∧ (¬ (m (m v0 0) (m v0 2)) ≠ 32 → (zobj kd v0 6 ∧ zobj kd v0 6 ∧ (Ev (d + 1) M_Tape_skipBlanks 0 0 0 [(2, v0)] [] kd (zup m v0 2 (iw ((m v0 2) + 1))) (zqV kd q)))))))))) : Ev (d + 1) M_Tape_skipBlanks 0 0 0 [(2, v0)] [] kd m (zqV kd q) := by
  obtain ⟨o1, o2, h⟩ := h
  refine EvX.blk (pc' := 8) [(.aload_n 0, 0, 0), (.getfield 19, 6, 2), (.aload_n 0, 0, 0), (.getfield 15, 6, 1)] (by decide +kernel) ⟨g_Tape_19, g_Tape_15, trivial⟩ ⟨o1, o2, ?_⟩
  show Ev (d + 1) M_Tape_skipBlanks 0 0 8 [(2, v0)] [(0, m v0 1), (0, m v0 2)] kd m (zqV kd q)
  refine EvX.icmp_ge (off := 30) (tgt := 38) (by decide +kernel) (by decide) (fun hc => ?_) (fun hc => ?_)
  · have h := h.1 hc
    exact EvX.ret (r := zJ) (by decide +kernel) rfl ⟨rfl, rfl, h⟩
  · have h := h.2 hc
    obtain ⟨o1, o2, o3, h⟩ := h
    refine EvX.blk (pc' := 22) [(.aload_n 0, 0, 0), (.getfield 11, 6, 0), (.aload_n 0, 0, 0), (.getfield 19, 6, 2), (.iaload, 0, 0), (.bipush 32, 0, 0)] (by decide +kernel) ⟨g_Tape_11, g_Tape_19, trivial⟩ ⟨o1, o2, o3, ?_⟩
    show Ev (d + 1) M_Tape_skipBlanks 0 0 22 [(2, v0)] [(0, 32), (0, m (m v0 0) (m v0 2))] kd m (zqV kd q)
    refine EvX.icmp_ne (off := 16) (tgt := 38) (by decide +kernel) (by decide) (fun hc => ?_) (fun hc => ?_)
    · have h := h.1 hc
      exact EvX.ret (r := zJ) (by decide +kernel) rfl ⟨rfl, rfl, h⟩
    · have h := h.2 hc
      obtain ⟨o1, o2, h⟩ := h
      refine EvX.blk (pc' := 35) [(.aload_n 0, 0, 0), (.dup, 0, 0), (.getfield 19, 6, 2), (.iconst 1, 0, 0), (.iadd, 0, 0), (.putfield 19, 6, 2)] (by decide +kernel) ⟨g_Tape_19, ⟨g_Tape_19, p_Tape_19⟩, trivial⟩ ⟨o1, rfl, o2, ?_⟩
      show Ev (d + 1) M_Tape_skipBlanks 0 0 35 [(2, v0)] [] kd (zup m v0 2 (iw ((m v0 2) + 1))) (zqV kd q)
      refine EvX.goto (off := (-35)) (tgt := 0) (by decide +kernel) (by decide) ?_
      exact h
theorem S_Tape_skipBlanks {d : Nat} {kd : ZK} {m : ZM} {q : ZM → Prop} {v0 : Int} (h : (zobj kd v0 6 ∧ zobj kd v0 6 ∧ (((m v0 1) ≤ (m v0 2) → q m) ∧ (¬ (m v0 1) ≤ (m v0 2) → (zobj kd v0 6 ∧ zobj kd v0 6 ∧ zIn kd (m v0 0) 0 (m v0 2) ∧ (((m (m v0 0) (m v0 2)) ≠ 32 → q m) ∧ (¬ (m (m v0 0) (m v0 2)) ≠ 32 → (zobj kd v0 6 ∧ zobj kd v0 6 ∧ (Ev (d + 1) M_Tape_skipBlanks 0 0 0 [(2, v0)] [] kd (zup m v0 2 (iw ((m v0 2) + 1))) (zqV kd q)))))))))) : CtV (d + 1) M_Tape_skipBlanks [(2, v0)] kd m q :=
  Ct.start k_Tape_skipBlanks (Nat.le_of_ble_eq_true rfl) ⟨0, Or.inl ⟨rfl, rfl⟩⟩ (T_Tape_skipBlanks_0 h)
set_option maxRecDepth 20000 in
set_option maxHeartbeats 1000000 in
theorem T_Tape_blame_0 {d : Nat} {kd : ZK} {m : ZM} {q : ZM → Prop} {v0 v1 v2 : Int} (h : (zobj kd v0 6 ∧ (((m v0 3) ≠ 0 → q m) ∧ (¬ (m v0 3) ≠ 0 → (zobj kd v0 6 ∧ q (zup m v0 3 (iw ((iw (8 * v1)) + v2)))))))) : Ev (d + 1) M_Tape_blame 0 0 0 [(2, v0), (0, v1), (0, v2)] [] kd m (zqV kd q) := by
  obtain ⟨o1, h⟩ := h
  refine EvX.blk (pc' := 4) [(.aload_n 0, 0, 0), (.getfield 22, 6, 3)] (by decide +kernel) ⟨g_Tape_22, trivial⟩ ⟨o1, ?_⟩
  show Ev (d + 1) M_Tape_blame 0 0 4 [(2, v0), (0, v1), (0, v2)] [(0, m v0 3)] kd m (zqV kd q)
  refine EvX.if_ne (off := 13) (tgt := 17) (by decide +kernel) (by decide) (fun hc => ?_) (fun hc => ?_)
  · have h := h.1 hc
    exact EvX.ret (r := zJ) (by decide +kernel) rfl ⟨rfl, rfl, h⟩
  · have h := h.2 hc
    obtain ⟨o1, h⟩ := h
    refine EvX.blk (pc' := 17) [(.aload_n 0, 0, 0), (.bipush 8, 0, 0), (.iload_n 1, 0, 0), (.imul, 0, 0), (.iload_n 2, 0, 0), (.iadd, 0, 0), (.putfield 22, 6, 3)] (by decide +kernel) ⟨⟨g_Tape_22, p_Tape_22⟩, trivial⟩ ⟨rfl, o1, ?_⟩
    show Ev (d + 1) M_Tape_blame 0 0 17 [(2, v0), (0, v1), (0, v2)] [] kd (zup m v0 3 (iw ((iw (8 * v1)) + v2))) (zqV kd q)
    exact EvX.ret (r := zJ) (by decide +kernel) rfl ⟨rfl, rfl, h⟩
theorem S_Tape_blame {d : Nat} {kd : ZK} {m : ZM} {q : ZM → Prop} {v0 v1 v2 : Int} (h : (zobj kd v0 6 ∧ (((m v0 3) ≠ 0 → q m) ∧ (¬ (m v0 3) ≠ 0 → (zobj kd v0 6 ∧ q (zup m v0 3 (iw ((iw (8 * v1)) + v2)))))))) : CtV (d + 1) M_Tape_blame [(2, v0), (0, v1), (0, v2)] kd m q :=
  Ct.start k_Tape_blame (Nat.le_of_ble_eq_true rfl) ⟨0, Or.inl ⟨rfl, rfl⟩⟩ (T_Tape_blame_0 h)
