/-! TREES of ApartGames$Scribe: by program (wip/whole/gen_trees.py) -/
set_option maxRecDepth 20000 in
set_option maxHeartbeats 1000000 in
theorem T_Scribe_write_0 {d : Nat} {kd : ZK} {m : ZM} {q : Int → ZM → Prop} {v0 v1 v2 : Int} (h : (zobj kd v0 3 ∧ zobj kd v0 3 ∧ (zobj kd v1 1 ∧ ∃ q1, CtI d M_Game_isTold [(2, v1)] kd (zup (zup m v0 0 v2) v0 2 0) q1 ∧ ∀ x2 m3, q1 x2 m3 → ((x2 ≠ 0 → (zobj kd v0 3 ∧ ∃ q4, CtV d M_Scribe_writeWord [(2, v0), (3, 0)] kd m3 q4 ∧ ∀ m6, q4 m6 → (zobj kd v1 1 ∧ (zobj kd v0 3 ∧ ∃ q7, CtV d M_Scribe_writeNumber [(2, v0), (0, m6 v1 0)] kd m6 q7 ∧ ∀ m9, q7 m9 → (zobj kd v1 1 ∧ (zobj kd v0 3 ∧ ∃ q10, CtV d M_Scribe_writeNumber [(2, v0), (0, m9 v1 1)] kd m9 q10 ∧ ∀ m12, q10 m12 → (zobj kd v1 1 ∧ (zobj kd v0 3 ∧ ∃ q13, CtV d M_Scribe_writeNumber [(2, v0), (0, m12 v1 2)] kd m12 q13 ∧ ∀ m15, q13 m15 → (zobj kd v1 1 ∧ (zobj kd v0 3 ∧ ∃ q16, CtV d M_Scribe_writeNumber [(2, v0), (0, m15 v1 3)] kd m15 q16 ∧ ∀ m18, q16 m18 → (zobj kd v0 3 ∧ ∃ q19, CtV d M_Scribe_writeWeights [(2, v0), (2, v1)] kd m18 q19 ∧ ∀ m21, q19 m21 → (zobj kd v1 1 ∧ (zobj kd v0 3 ∧ ∃ q22, CtV d M_Scribe_writeSpots [(2, v0), (2, v1), (3, 9), (2, m21 v1 5), (0, 0)] kd m21 q22 ∧ ∀ m24, q22 m24 → (zobj kd v1 1 ∧ (zobj kd v0 3 ∧ ∃ q25, CtV d M_Scribe_writeSpots [(2, v0), (2, v1), (3, 10), (2, m24 v1 6), (0, 1)] kd m24 q25 ∧ ∀ m27, q25 m27 → (zobj kd v0 3 ∧ q (m27 v0 2) m27)))))))))))))))) ∧ (¬ x2 ≠ 0 → q 0 m3))))) : Ev (d + 1) M_Scribe_write 0 0 0 [(2, v0), (2, v1), (0, v2)] [] kd m (zqI kd q) := by
  obtain ⟨o1, o2, h⟩ := h
  refine EvX.blk (pc' := 11) [(.aload_n 0, 0, 0), (.iload_n 2, 0, 0), (.putfield 9, 3, 0), (.aload_n 0, 0, 0), (.iconst 0, 0, 0), (.putfield 18, 3, 2), (.aload_n 1, 0, 0)] (by decide +kernel) ⟨⟨g_Scribe_9, p_Scribe_9⟩, ⟨g_Scribe_18, p_Scribe_18⟩, trivial⟩ ⟨rfl, o1, rfl, o2, ?_⟩
  show Ev (d + 1) M_Scribe_write 0 0 11 [(2, v0), (2, v1), (0, v2)] [(2, v1)] kd (zup (zup m v0 0 v2) v0 2 0) (zqI kd q)
  obtain ⟨ov, h⟩ := h
  obtain ⟨q1, hq, h⟩ := h
  refine EvX.callV (c := 1) (mc := 0) (ms := 0) (as := []) (st := []) (by decide +kernel) l_Scribe_21 k_Game_isTold v_Game_isTold a_Game_isTold (by decide) (Nat.le_of_ble_eq_true rfl) rfl ov hq (fun r kd1 m3 hr => ?_)
  obtain ⟨x2, rfl, hk, hr⟩ := hr
  subst kd1
  have h := h x2 m3 hr
  show Ev (d + 1) M_Scribe_write 0 0 14 [(2, v0), (2, v1), (0, v2)] [(0, x2)] kd m3 (zqI kd q)
  refine EvX.if_ne (off := 5) (tgt := 19) (by decide +kernel) (by decide) (fun hc => ?_) (fun hc => ?_)
  · have h := h.1 hc
    refine EvX.blk (pc' := 22) [(.aload_n 0, 0, 0), (.ldc 27, 1, 0)] (by decide +kernel) ⟨z_Scribe_27, trivial⟩ ?_
    show Ev (d + 1) M_Scribe_write 0 0 22 [(2, v0), (2, v1), (0, v2)] [(3, 0), (2, v0)] kd m3 (zqI kd q)
    obtain ⟨ov, h⟩ := h
    obtain ⟨q4, hq, h⟩ := h
    refine EvX.callV (c := 3) (mc := 0) (ms := 0) (as := [(3, 0)]) (st := []) (by decide +kernel) l_Scribe_29 k_Scribe_writeWord v_Scribe_writeWord a_Scribe_writeWord (by decide) (Nat.le_of_ble_eq_true rfl) rfl ov hq (fun r kd1 m6 hr => ?_)
    obtain ⟨rfl, hk, hr⟩ := hr
    subst kd1
    have h := h m6 hr
    show Ev (d + 1) M_Scribe_write 0 0 25 [(2, v0), (2, v1), (0, v2)] [] kd m6 (zqI kd q)
    obtain ⟨o1, h⟩ := h
    refine EvX.blk (pc' := 30) [(.aload_n 0, 0, 0), (.aload_n 1, 0, 0), (.getfield 33, 1, 0)] (by decide +kernel) ⟨g_Scribe_33, trivial⟩ ⟨o1, ?_⟩
    show Ev (d + 1) M_Scribe_write 0 0 30 [(2, v0), (2, v1), (0, v2)] [(0, m6 v1 0), (2, v0)] kd m6 (zqI kd q)
    obtain ⟨ov, h⟩ := h
    obtain ⟨q7, hq, h⟩ := h
    refine EvX.callV (c := 3) (mc := 0) (ms := 0) (as := [(0, m6 v1 0)]) (st := []) (by decide +kernel) l_Scribe_36 k_Scribe_writeNumber v_Scribe_writeNumber a_Scribe_writeNumber (by decide) (Nat.le_of_ble_eq_true rfl) rfl ov hq (fun r kd1 m9 hr => ?_)
    obtain ⟨rfl, hk, hr⟩ := hr
    subst kd1
    have h := h m9 hr
    show Ev (d + 1) M_Scribe_write 0 0 33 [(2, v0), (2, v1), (0, v2)] [] kd m9 (zqI kd q)
    obtain ⟨o1, h⟩ := h
    refine EvX.blk (pc' := 38) [(.aload_n 0, 0, 0), (.aload_n 1, 0, 0), (.getfield 40, 1, 1)] (by decide +kernel) ⟨g_Scribe_40, trivial⟩ ⟨o1, ?_⟩
    show Ev (d + 1) M_Scribe_write 0 0 38 [(2, v0), (2, v1), (0, v2)] [(0, m9 v1 1), (2, v0)] kd m9 (zqI kd q)
    obtain ⟨ov, h⟩ := h
    obtain ⟨q10, hq, h⟩ := h
    refine EvX.callV (c := 3) (mc := 0) (ms := 0) (as := [(0, m9 v1 1)]) (st := []) (by decide +kernel) l_Scribe_36 k_Scribe_writeNumber v_Scribe_writeNumber a_Scribe_writeNumber (by decide) (Nat.le_of_ble_eq_true rfl) rfl ov hq (fun r kd1 m12 hr => ?_)
    obtain ⟨rfl, hk, hr⟩ := hr
    subst kd1
    have h := h m12 hr
    show Ev (d + 1) M_Scribe_write 0 0 41 [(2, v0), (2, v1), (0, v2)] [] kd m12 (zqI kd q)
    obtain ⟨o1, h⟩ := h
    refine EvX.blk (pc' := 46) [(.aload_n 0, 0, 0), (.aload_n 1, 0, 0), (.getfield 43, 1, 2)] (by decide +kernel) ⟨g_Scribe_43, trivial⟩ ⟨o1, ?_⟩
    show Ev (d + 1) M_Scribe_write 0 0 46 [(2, v0), (2, v1), (0, v2)] [(0, m12 v1 2), (2, v0)] kd m12 (zqI kd q)
    obtain ⟨ov, h⟩ := h
    obtain ⟨q13, hq, h⟩ := h
    refine EvX.callV (c := 3) (mc := 0) (ms := 0) (as := [(0, m12 v1 2)]) (st := []) (by decide +kernel) l_Scribe_36 k_Scribe_writeNumber v_Scribe_writeNumber a_Scribe_writeNumber (by decide) (Nat.le_of_ble_eq_true rfl) rfl ov hq (fun r kd1 m15 hr => ?_)
    obtain ⟨rfl, hk, hr⟩ := hr
    subst kd1
    have h := h m15 hr
    show Ev (d + 1) M_Scribe_write 0 0 49 [(2, v0), (2, v1), (0, v2)] [] kd m15 (zqI kd q)
    obtain ⟨o1, h⟩ := h
    refine EvX.blk (pc' := 54) [(.aload_n 0, 0, 0), (.aload_n 1, 0, 0), (.getfield 46, 1, 3)] (by decide +kernel) ⟨g_Scribe_46, trivial⟩ ⟨o1, ?_⟩
    show Ev (d + 1) M_Scribe_write 0 0 54 [(2, v0), (2, v1), (0, v2)] [(0, m15 v1 3), (2, v0)] kd m15 (zqI kd q)
    obtain ⟨ov, h⟩ := h
    obtain ⟨q16, hq, h⟩ := h
    refine EvX.callV (c := 3) (mc := 0) (ms := 0) (as := [(0, m15 v1 3)]) (st := []) (by decide +kernel) l_Scribe_36 k_Scribe_writeNumber v_Scribe_writeNumber a_Scribe_writeNumber (by decide) (Nat.le_of_ble_eq_true rfl) rfl ov hq (fun r kd1 m18 hr => ?_)
    obtain ⟨rfl, hk, hr⟩ := hr
    subst kd1
    have h := h m18 hr
    show Ev (d + 1) M_Scribe_write 0 0 57 [(2, v0), (2, v1), (0, v2)] [] kd m18 (zqI kd q)
    refine EvX.blk (pc' := 59) [(.aload_n 0, 0, 0), (.aload_n 1, 0, 0)] (by decide +kernel) trivial ?_
    show Ev (d + 1) M_Scribe_write 0 0 59 [(2, v0), (2, v1), (0, v2)] [(2, v1), (2, v0)] kd m18 (zqI kd q)
    obtain ⟨ov, h⟩ := h
    obtain ⟨q19, hq, h⟩ := h
    refine EvX.callV (c := 3) (mc := 0) (ms := 0) (as := [(2, v1)]) (st := []) (by decide +kernel) l_Scribe_49 k_Scribe_writeWeights v_Scribe_writeWeights a_Scribe_writeWeights (by decide) (Nat.le_of_ble_eq_true rfl) rfl ov hq (fun r kd1 m21 hr => ?_)
    obtain ⟨rfl, hk, hr⟩ := hr
    subst kd1
    have h := h m21 hr
    show Ev (d + 1) M_Scribe_write 0 0 62 [(2, v0), (2, v1), (0, v2)] [] kd m21 (zqI kd q)
    obtain ⟨o1, h⟩ := h
    refine EvX.blk (pc' := 71) [(.aload_n 0, 0, 0), (.aload_n 1, 0, 0), (.ldc 53, 1, 9), (.aload_n 1, 0, 0), (.getfield 55, 1, 5), (.iconst 0, 0, 0)] (by decide +kernel) ⟨z_Scribe_53, g_Scribe_55, trivial⟩ ⟨o1, ?_⟩
    show Ev (d + 1) M_Scribe_write 0 0 71 [(2, v0), (2, v1), (0, v2)] [(0, 0), (2, m21 v1 5), (3, 9), (2, v1), (2, v0)] kd m21 (zqI kd q)
    obtain ⟨ov, h⟩ := h
    obtain ⟨q22, hq, h⟩ := h
    refine EvX.callV (c := 3) (mc := 0) (ms := 0) (as := [(2, v1), (3, 9), (2, m21 v1 5), (0, 0)]) (st := []) (by decide +kernel) l_Scribe_59 k_Scribe_writeSpots v_Scribe_writeSpots a_Scribe_writeSpots (by decide) (Nat.le_of_ble_eq_true rfl) rfl ov hq (fun r kd1 m24 hr => ?_)
    obtain ⟨rfl, hk, hr⟩ := hr
    subst kd1
    have h := h m24 hr
    show Ev (d + 1) M_Scribe_write 0 0 74 [(2, v0), (2, v1), (0, v2)] [] kd m24 (zqI kd q)
    obtain ⟨o1, h⟩ := h
    refine EvX.blk (pc' := 83) [(.aload_n 0, 0, 0), (.aload_n 1, 0, 0), (.ldc 63, 1, 10), (.aload_n 1, 0, 0), (.getfield 65, 1, 6), (.iconst 1, 0, 0)] (by decide +kernel) ⟨z_Scribe_63, g_Scribe_65, trivial⟩ ⟨o1, ?_⟩
    show Ev (d + 1) M_Scribe_write 0 0 83 [(2, v0), (2, v1), (0, v2)] [(0, 1), (2, m24 v1 6), (3, 10), (2, v1), (2, v0)] kd m24 (zqI kd q)
    obtain ⟨ov, h⟩ := h
    obtain ⟨q25, hq, h⟩ := h
    refine EvX.callV (c := 3) (mc := 0) (ms := 0) (as := [(2, v1), (3, 10), (2, m24 v1 6), (0, 1)]) (st := []) (by decide +kernel) l_Scribe_59 k_Scribe_writeSpots v_Scribe_writeSpots a_Scribe_writeSpots (by decide) (Nat.le_of_ble_eq_true rfl) rfl ov hq (fun r kd1 m27 hr => ?_)
    obtain ⟨rfl, hk, hr⟩ := hr
    subst kd1
    have h := h m27 hr
    show Ev (d + 1) M_Scribe_write 0 0 86 [(2, v0), (2, v1), (0, v2)] [] kd m27 (zqI kd q)
    obtain ⟨o1, h⟩ := h
    refine EvX.blk (pc' := 90) [(.aload_n 0, 0, 0), (.getfield 18, 3, 2)] (by decide +kernel) ⟨g_Scribe_18, trivial⟩ ⟨o1, ?_⟩
    show Ev (d + 1) M_Scribe_write 0 0 90 [(2, v0), (2, v1), (0, v2)] [(0, m27 v0 2)] kd m27 (zqI kd q)
    exact EvX.ret (r := (0, m27 v0 2)) (by decide +kernel) rfl ⟨_, rfl, rfl, h⟩
  · have h := h.2 hc
    refine EvX.blk (pc' := 18) [(.iconst 0, 0, 0)] (by decide +kernel) trivial ?_
    show Ev (d + 1) M_Scribe_write 0 0 18 [(2, v0), (2, v1), (0, v2)] [(0, 0)] kd m3 (zqI kd q)
    exact EvX.ret (r := (0, 0)) (by decide +kernel) rfl ⟨_, rfl, rfl, h⟩
theorem S_Scribe_write {d : Nat} {kd : ZK} {m : ZM} {q : Int → ZM → Prop} {v0 v1 v2 : Int} (h : (zobj kd v0 3 ∧ zobj kd v0 3 ∧ (zobj kd v1 1 ∧ ∃ q1, CtI d M_Game_isTold [(2, v1)] kd (zup (zup m v0 0 v2) v0 2 0) q1 ∧ ∀ x2 m3, q1 x2 m3 → ((x2 ≠ 0 → (zobj kd v0 3 ∧ ∃ q4, CtV d M_Scribe_writeWord [(2, v0), (3, 0)] kd m3 q4 ∧ ∀ m6, q4 m6 → (zobj kd v1 1 ∧ (zobj kd v0 3 ∧ ∃ q7, CtV d M_Scribe_writeNumber [(2, v0), (0, m6 v1 0)] kd m6 q7 ∧ ∀ m9, q7 m9 → (zobj kd v1 1 ∧ (zobj kd v0 3 ∧ ∃ q10, CtV d M_Scribe_writeNumber [(2, v0), (0, m9 v1 1)] kd m9 q10 ∧ ∀ m12, q10 m12 → (zobj kd v1 1 ∧ (zobj kd v0 3 ∧ ∃ q13, CtV d M_Scribe_writeNumber [(2, v0), (0, m12 v1 2)] kd m12 q13 ∧ ∀ m15, q13 m15 → (zobj kd v1 1 ∧ (zobj kd v0 3 ∧ ∃ q16, CtV d M_Scribe_writeNumber [(2, v0), (0, m15 v1 3)] kd m15 q16 ∧ ∀ m18, q16 m18 → (zobj kd v0 3 ∧ ∃ q19, CtV d M_Scribe_writeWeights [(2, v0), (2, v1)] kd m18 q19 ∧ ∀ m21, q19 m21 → (zobj kd v1 1 ∧ (zobj kd v0 3 ∧ ∃ q22, CtV d M_Scribe_writeSpots [(2, v0), (2, v1), (3, 9), (2, m21 v1 5), (0, 0)] kd m21 q22 ∧ ∀ m24, q22 m24 → (zobj kd v1 1 ∧ (zobj kd v0 3 ∧ ∃ q25, CtV d M_Scribe_writeSpots [(2, v0), (2, v1), (3, 10), (2, m24 v1 6), (0, 1)] kd m24 q25 ∧ ∀ m27, q25 m27 → (zobj kd v0 3 ∧ q (m27 v0 2) m27)))))))))))))))) ∧ (¬ x2 ≠ 0 → q 0 m3))))) : CtI (d + 1) M_Scribe_write [(2, v0), (2, v1), (0, v2)] kd m q :=
  Ct.start k_Scribe_write (Nat.le_of_ble_eq_true rfl) ⟨1, Or.inr (Or.inl ⟨rfl, rfl⟩)⟩ (T_Scribe_write_0 h)
set_option maxRecDepth 20000 in
set_option maxHeartbeats 1000000 in
theorem T_Scribe_writeWeights_0 {d : Nat} {kd : ZK} {m : ZM} {q : ZM → Prop} {v0 v1 : Int} (h : (Ev (d + 1) M_Scribe_writeWeights 0 0 2 [(2, v0), (2, v1), (0, 0), zJ, zJ] [] kd m (zqV kd q))) : Ev (d + 1) M_Scribe_writeWeights 0 0 0 [(2, v0), (2, v1), zJ, zJ, zJ] [] kd m (zqV kd q) := by
  refine EvX.blk (pc' := 2) [(.iconst 0, 0, 0), (.istore_n 2, 0, 0)] (by decide +kernel) trivial ?_
  show Ev (d + 1) M_Scribe_writeWeights 0 0 2 [(2, v0), (2, v1), (0, 0), zJ, zJ] [] kd m (zqV kd q)
  exact h
theorem S_Scribe_writeWeights {d : Nat} {kd : ZK} {m : ZM} {q : ZM → Prop} {v0 v1 : Int} (h : (Ev (d + 1) M_Scribe_writeWeights 0 0 2 [(2, v0), (2, v1), (0, 0), zJ, zJ] [] kd m (zqV kd q))) : CtV (d + 1) M_Scribe_writeWeights [(2, v0), (2, v1)] kd m q :=
  Ct.start k_Scribe_writeWeights (Nat.le_of_ble_eq_true rfl) ⟨0, Or.inl ⟨rfl, rfl⟩⟩ (T_Scribe_writeWeights_0 h)
set_option maxRecDepth 20000 in
set_option maxHeartbeats 1000000 in
theorem T_Scribe_writeWeights_2 {d : Nat} {kd : ZK} {m : ZM} {q : ZM → Prop} {v0 v1 v2 : Int} (h : (zobj kd v1 1 ∧ (((m v1 0) ≤ v2 → q m) ∧ (¬ (m v1 0) ≤ v2 → (Ev (d + 1) M_Scribe_writeWeights 0 0 12 [(2, v0), (2, v1), (0, v2), (0, 0), zJ] [] kd m (zqV kd q)))))) : Ev (d + 1) M_Scribe_writeWeights 0 0 2 [(2, v0), (2, v1), (0, v2), zJ, zJ] [] kd m (zqV kd q) := by
  obtain ⟨o1, h⟩ := h
  refine EvX.blk (pc' := 7) [(.iload_n 2, 0, 0), (.aload_n 1, 0, 0), (.getfield 33, 1, 0)] (by decide +kernel) ⟨g_Scribe_33, trivial⟩ ⟨o1, ?_⟩
  show Ev (d + 1) M_Scribe_writeWeights 0 0 7 [(2, v0), (2, v1), (0, v2), zJ, zJ] [(0, m v1 0), (0, v2)] kd m (zqV kd q)
  refine EvX.icmp_ge (off := 66) (tgt := 73) (by decide +kernel) (by decide) (fun hc => ?_) (fun hc => ?_)
  · have h := h.1 hc
    exact EvX.ret (r := zJ) (by decide +kernel) rfl ⟨rfl, rfl, h⟩
  · have h := h.2 hc
    refine EvX.blk (pc' := 12) [(.iconst 0, 0, 0), (.istore_n 3, 0, 0)] (by decide +kernel) trivial ?_
    show Ev (d + 1) M_Scribe_writeWeights 0 0 12 [(2, v0), (2, v1), (0, v2), (0, 0), zJ] [] kd m (zqV kd q)
    exact h
set_option maxRecDepth 20000 in
set_option maxHeartbeats 1000000 in
theorem T_Scribe_writeWeights_12 {d : Nat} {kd : ZK} {m : ZM} {q : ZM → Prop} {v0 v1 v2 v3 : Int} (h : (zobj kd v1 1 ∧ (((m v1 1) ≤ v3 → (Ev (d + 1) M_Scribe_writeWeights 0 0 2 [(2, v0), (2, v1), (0, iw (v2 + 1)), zJ, zJ] [] kd m (zqV kd q))) ∧ (¬ (m v1 1) ≤ v3 → (zobj kd v1 1 ∧ (∃ q1, CtI d M_Ap_cellOf [(0, 0), (0, v2), (0, v3)] kd m q1 ∧ ∀ x2 m3, q1 x2 m3 → (zIn kd (m v1 4) 0 x2 ∧ (((m3 (m v1 4) x2) = 1 → (Ev (d + 1) M_Scribe_writeWeights 0 0 12 [(2, v0), (2, v1), (0, v2), (0, iw (v3 + 1)), zJ] [] kd m3 (zqV kd q))) ∧ (¬ (m3 (m v1 4) x2) = 1 → (zobj kd v0 3 ∧ ∃ q4, CtV d M_Scribe_writeWord [(2, v0), (3, 8)] kd m3 q4 ∧ ∀ m6, q4 m6 → (zobj kd v0 3 ∧ ∃ q7, CtV d M_Scribe_writeNumber [(2, v0), (0, v2)] kd m6 q7 ∧ ∀ m9, q7 m9 → (zobj kd v0 3 ∧ ∃ q10, CtV d M_Scribe_writeNumber [(2, v0), (0, v3)] kd m9 q10 ∧ ∀ m12, q10 m12 → (zobj kd v0 3 ∧ ∃ q13, CtV d M_Scribe_writeNumber [(2, v0), (0, m3 (m v1 4) x2)] kd m12 q13 ∧ ∀ m15, q13 m15 → (Ev (d + 1) M_Scribe_writeWeights 0 0 12 [(2, v0), (2, v1), (0, v2), (0, iw (v3 + 1)), zJ] [] kd m15 (zqV kd q))))))))))))))) : Ev (d + 1) M_Scribe_writeWeights 0 0 12 [(2, v0), (2, v1), (0, v2), (0, v3), zJ] [] kd m (zqV kd q) := by
  obtain ⟨o1, h⟩ := h
  refine EvX.blk (pc' := 17) [(.iload_n 3, 0, 0), (.aload_n 1, 0, 0), (.getfield 40, 1, 1)] (by decide +kernel) ⟨g_Scribe_40, trivial⟩ ⟨o1, ?_⟩
  show Ev (d + 1) M_Scribe_writeWeights 0 0 17 [(2, v0), (2, v1), (0, v2), (0, v3), zJ] [(0, m v1 1), (0, v3)] kd m (zqV kd q)
  refine EvX.icmp_ge (off := 50) (tgt := 67) (by decide +kernel) (by decide) (fun hc => ?_) (fun hc => ?_)
  · have h := h.1 hc
    refine EvX.blk (pc' := 70) [(.iinc 2 1, 0, 0)] (by decide +kernel) trivial ?_
    show Ev (d + 1) M_Scribe_writeWeights 0 0 70 [(2, v0), (2, v1), (0, iw (v2 + 1)), (0, v3), zJ] [] kd m (zqV kd q)
    refine EvX.goto (off := (-68)) (tgt := 2) (by decide +kernel) (by decide) ?_
    exact EvX.weak (ls2 := [(2, v0), (2, v1), (0, iw (v2 + 1)), zJ, zJ]) (zwk_of ⟨Or.inr rfl, Or.inr rfl, Or.inr rfl, Or.inl rfl, Or.inl rfl, trivial⟩) h
  · have h := h.2 hc
    obtain ⟨o1, h⟩ := h
    refine EvX.blk (pc' := 27) [(.aload_n 1, 0, 0), (.getfield 68, 1, 4), (.iconst 0, 0, 0), (.iload_n 2, 0, 0), (.iload_n 3, 0, 0)] (by decide +kernel) ⟨g_Scribe_68, trivial⟩ ⟨o1, ?_⟩
    show Ev (d + 1) M_Scribe_writeWeights 0 0 27 [(2, v0), (2, v1), (0, v2), (0, v3), zJ] [(0, v3), (0, v2), (0, 0), (2, m v1 4)] kd m (zqV kd q)
    obtain ⟨q1, hq, h⟩ := h
    refine EvX.callS (mc := 0) (ms := 0) (as := [(0, 0), (0, v2), (0, v3)]) (st := [(2, m v1 4)]) (by decide +kernel) l_Scribe_71 k_Ap_cellOf s_Ap_cellOf a_Ap_cellOf (by decide) (Nat.le_of_ble_eq_true rfl) hq (fun r kd1 m3 hr => ?_)
    obtain ⟨x2, rfl, hk, hr⟩ := hr
    subst kd1
    have h := h x2 m3 hr
    show Ev (d + 1) M_Scribe_writeWeights 0 0 30 [(2, v0), (2, v1), (0, v2), (0, v3), zJ] [(0, x2), (2, m v1 4)] kd m3 (zqV kd q)
    obtain ⟨o1, h⟩ := h
    refine EvX.blk (pc' := 36) [(.iaload, 0, 0), (.istore 4, 0, 0), (.iload 4, 0, 0), (.iconst 1, 0, 0)] (by decide +kernel) trivial ⟨o1, ?_⟩
    show Ev (d + 1) M_Scribe_writeWeights 0 0 36 [(2, v0), (2, v1), (0, v2), (0, v3), (0, m3 (m v1 4) x2)] [(0, 1), (0, m3 (m v1 4) x2)] kd m3 (zqV kd q)
    refine EvX.icmp_eq (off := 25) (tgt := 61) (by decide +kernel) (by decide) (fun hc => ?_) (fun hc => ?_)
    · have h := h.1 hc
      refine EvX.blk (pc' := 64) [(.iinc 3 1, 0, 0)] (by decide +kernel) trivial ?_
      show Ev (d + 1) M_Scribe_writeWeights 0 0 64 [(2, v0), (2, v1), (0, v2), (0, iw (v3 + 1)), (0, m3 (m v1 4) x2)] [] kd m3 (zqV kd q)
      refine EvX.goto (off := (-52)) (tgt := 12) (by decide +kernel) (by decide) ?_
      exact EvX.weak (ls2 := [(2, v0), (2, v1), (0, v2), (0, iw (v3 + 1)), zJ]) (zwk_of ⟨Or.inr rfl, Or.inr rfl, Or.inr rfl, Or.inr rfl, Or.inl rfl, trivial⟩) h
    · have h := h.2 hc
      refine EvX.blk (pc' := 42) [(.aload_n 0, 0, 0), (.ldc 75, 1, 8)] (by decide +kernel) ⟨z_Scribe_75, trivial⟩ ?_
      show Ev (d + 1) M_Scribe_writeWeights 0 0 42 [(2, v0), (2, v1), (0, v2), (0, v3), (0, m3 (m v1 4) x2)] [(3, 8), (2, v0)] kd m3 (zqV kd q)
      obtain ⟨ov, h⟩ := h
      obtain ⟨q4, hq, h⟩ := h
      refine EvX.callV (c := 3) (mc := 0) (ms := 0) (as := [(3, 8)]) (st := []) (by decide +kernel) l_Scribe_29 k_Scribe_writeWord v_Scribe_writeWord a_Scribe_writeWord (by decide) (Nat.le_of_ble_eq_true rfl) rfl ov hq (fun r kd1 m6 hr => ?_)
      obtain ⟨rfl, hk, hr⟩ := hr
      subst kd1
      have h := h m6 hr
      show Ev (d + 1) M_Scribe_writeWeights 0 0 45 [(2, v0), (2, v1), (0, v2), (0, v3), (0, m3 (m v1 4) x2)] [] kd m6 (zqV kd q)
      refine EvX.blk (pc' := 47) [(.aload_n 0, 0, 0), (.iload_n 2, 0, 0)] (by decide +kernel) trivial ?_
      show Ev (d + 1) M_Scribe_writeWeights 0 0 47 [(2, v0), (2, v1), (0, v2), (0, v3), (0, m3 (m v1 4) x2)] [(0, v2), (2, v0)] kd m6 (zqV kd q)
      obtain ⟨ov, h⟩ := h
      obtain ⟨q7, hq, h⟩ := h
      refine EvX.callV (c := 3) (mc := 0) (ms := 0) (as := [(0, v2)]) (st := []) (by decide +kernel) l_Scribe_36 k_Scribe_writeNumber v_Scribe_writeNumber a_Scribe_writeNumber (by decide) (Nat.le_of_ble_eq_true rfl) rfl ov hq (fun r kd1 m9 hr => ?_)
      obtain ⟨rfl, hk, hr⟩ := hr
      subst kd1
      have h := h m9 hr
      show Ev (d + 1) M_Scribe_writeWeights 0 0 50 [(2, v0), (2, v1), (0, v2), (0, v3), (0, m3 (m v1 4) x2)] [] kd m9 (zqV kd q)
      refine EvX.blk (pc' := 52) [(.aload_n 0, 0, 0), (.iload_n 3, 0, 0)] (by decide +kernel) trivial ?_
      show Ev (d + 1) M_Scribe_writeWeights 0 0 52 [(2, v0), (2, v1), (0, v2), (0, v3), (0, m3 (m v1 4) x2)] [(0, v3), (2, v0)] kd m9 (zqV kd q)
      obtain ⟨ov, h⟩ := h
      obtain ⟨q10, hq, h⟩ := h
      refine EvX.callV (c := 3) (mc := 0) (ms := 0) (as := [(0, v3)]) (st := []) (by decide +kernel) l_Scribe_36 k_Scribe_writeNumber v_Scribe_writeNumber a_Scribe_writeNumber (by decide) (Nat.le_of_ble_eq_true rfl) rfl ov hq (fun r kd1 m12 hr => ?_)
      obtain ⟨rfl, hk, hr⟩ := hr
      subst kd1
      have h := h m12 hr
      show Ev (d + 1) M_Scribe_writeWeights 0 0 55 [(2, v0), (2, v1), (0, v2), (0, v3), (0, m3 (m v1 4) x2)] [] kd m12 (zqV kd q)
      refine EvX.blk (pc' := 58) [(.aload_n 0, 0, 0), (.iload 4, 0, 0)] (by decide +kernel) trivial ?_
      show Ev (d + 1) M_Scribe_writeWeights 0 0 58 [(2, v0), (2, v1), (0, v2), (0, v3), (0, m3 (m v1 4) x2)] [(0, m3 (m v1 4) x2), (2, v0)] kd m12 (zqV kd q)
      obtain ⟨ov, h⟩ := h
      obtain ⟨q13, hq, h⟩ := h
      refine EvX.callV (c := 3) (mc := 0) (ms := 0) (as := [(0, m3 (m v1 4) x2)]) (st := []) (by decide +kernel) l_Scribe_36 k_Scribe_writeNumber v_Scribe_writeNumber a_Scribe_writeNumber (by decide) (Nat.le_of_ble_eq_true rfl) rfl ov hq (fun r kd1 m15 hr => ?_)
      obtain ⟨rfl, hk, hr⟩ := hr
      subst kd1
      have h := h m15 hr
      show Ev (d + 1) M_Scribe_writeWeights 0 0 61 [(2, v0), (2, v1), (0, v2), (0, v3), (0, m3 (m v1 4) x2)] [] kd m15 (zqV kd q)
      refine EvX.blk (pc' := 64) [(.iinc 3 1, 0, 0)] (by decide +kernel) trivial ?_
      show Ev (d + 1) M_Scribe_writeWeights 0 0 64 [(2, v0), (2, v1), (0, v2), (0, iw (v3 + 1)), (0, m3 (m v1 4) x2)] [] kd m15 (zqV kd q)
      refine EvX.goto (off := (-52)) (tgt := 12) (by decide +kernel) (by decide) ?_
      exact EvX.weak (ls2 := [(2, v0), (2, v1), (0, v2), (0, iw (v3 + 1)), zJ]) (zwk_of ⟨Or.inr rfl, Or.inr rfl, Or.inr rfl, Or.inr rfl, Or.inl rfl, trivial⟩) h
set_option maxRecDepth 20000 in
set_option maxHeartbeats 1000000 in
theorem T_Scribe_writeSpots_0 {d : Nat} {kd : ZK} {m : ZM} {q : ZM → Prop} {v0 v1 v2 v3 v4 : Int} (h : (Ev (d + 1) M_Scribe_writeSpots 0 0 3 [(2, v0), (2, v1), (3, v2), (2, v3), (0, v4), (0, 0), zJ, zJ, zJ, zJ] [] kd m (zqV kd q))) : Ev (d + 1) M_Scribe_writeSpots 0 0 0 [(2, v0), (2, v1), (3, v2), (2, v3), (0, v4), zJ, zJ, zJ, zJ, zJ] [] kd m (zqV kd q) := by
  refine EvX.blk (pc' := 3) [(.iconst 0, 0, 0), (.istore 5, 0, 0)] (by decide +kernel) trivial ?_
  show Ev (d + 1) M_Scribe_writeSpots 0 0 3 [(2, v0), (2, v1), (3, v2), (2, v3), (0, v4), (0, 0), zJ, zJ, zJ, zJ] [] kd m (zqV kd q)
  exact h
theorem S_Scribe_writeSpots {d : Nat} {kd : ZK} {m : ZM} {q : ZM → Prop} {v0 v1 v2 v3 v4 : Int} (h : (Ev (d + 1) M_Scribe_writeSpots 0 0 3 [(2, v0), (2, v1), (3, v2), (2, v3), (0, v4), (0, 0), zJ, zJ, zJ, zJ] [] kd m (zqV kd q))) : CtV (d + 1) M_Scribe_writeSpots [(2, v0), (2, v1), (3, v2), (2, v3), (0, v4)] kd m q :=
  Ct.start k_Scribe_writeSpots (Nat.le_of_ble_eq_true rfl) ⟨0, Or.inl ⟨rfl, rfl⟩⟩ (T_Scribe_writeSpots_0 h)
set_option maxRecDepth 20000 in
set_option maxHeartbeats 1000000 in
theorem T_Scribe_writeSpots_3 {d : Nat} {kd : ZK} {m : ZM} {q : ZM → Prop} {v0 v1 v2 v3 v4 v5 : Int} (h : (zobj kd v1 1 ∧ (((m v1 0) ≤ v5 → q m) ∧ (¬ (m v1 0) ≤ v5 → (Ev (d + 1) M_Scribe_writeSpots 0 0 15 [(2, v0), (2, v1), (3, v2), (2, v3), (0, v4), (0, v5), (0, 0), zJ, zJ, zJ] [] kd m (zqV kd q)))))) : Ev (d + 1) M_Scribe_writeSpots 0 0 3 [(2, v0), (2, v1), (3, v2), (2, v3), (0, v4), (0, v5), zJ, zJ, zJ, zJ] [] kd m (zqV kd q) := by
  obtain ⟨o1, h⟩ := h
  refine EvX.blk (pc' := 9) [(.iload 5, 0, 0), (.aload_n 1, 0, 0), (.getfield 33, 1, 0)] (by decide +kernel) ⟨g_Scribe_33, trivial⟩ ⟨o1, ?_⟩
  show Ev (d + 1) M_Scribe_writeSpots 0 0 9 [(2, v0), (2, v1), (3, v2), (2, v3), (0, v4), (0, v5), zJ, zJ, zJ, zJ] [(0, m v1 0), (0, v5)] kd m (zqV kd q)
  refine EvX.icmp_ge (off := 109) (tgt := 118) (by decide +kernel) (by decide) (fun hc => ?_) (fun hc => ?_)
  · have h := h.1 hc
    exact EvX.ret (r := zJ) (by decide +kernel) rfl ⟨rfl, rfl, h⟩
  · have h := h.2 hc
    refine EvX.blk (pc' := 15) [(.iconst 0, 0, 0), (.istore 6, 0, 0)] (by decide +kernel) trivial ?_
    show Ev (d + 1) M_Scribe_writeSpots 0 0 15 [(2, v0), (2, v1), (3, v2), (2, v3), (0, v4), (0, v5), (0, 0), zJ, zJ, zJ] [] kd m (zqV kd q)
    exact h
set_option maxRecDepth 20000 in
set_option maxHeartbeats 1000000 in
theorem T_Scribe_writeSpots_15 {d : Nat} {kd : ZK} {m : ZM} {q : ZM → Prop} {v0 v1 v2 v3 v4 v5 v6 : Int} (h : (zobj kd v1 1 ∧ (((m v1 1) ≤ v6 → (Ev (d + 1) M_Scribe_writeSpots 0 0 3 [(2, v0), (2, v1), (3, v2), (2, v3), (0, v4), (0, iw (v5 + 1)), zJ, zJ, zJ, zJ] [] kd m (zqV kd q))) ∧ (¬ (m v1 1) ≤ v6 → (Ev (d + 1) M_Scribe_writeSpots 0 0 27 [(2, v0), (2, v1), (3, v2), (2, v3), (0, v4), (0, v5), (0, v6), (0, 0), zJ, zJ] [] kd m (zqV kd q)))))) : Ev (d + 1) M_Scribe_writeSpots 0 0 15 [(2, v0), (2, v1), (3, v2), (2, v3), (0, v4), (0, v5), (0, v6), zJ, zJ, zJ] [] kd m (zqV kd q) := by
  obtain ⟨o1, h⟩ := h
  refine EvX.blk (pc' := 21) [(.iload 6, 0, 0), (.aload_n 1, 0, 0), (.getfield 40, 1, 1)] (by decide +kernel) ⟨g_Scribe_40, trivial⟩ ⟨o1, ?_⟩
  show Ev (d + 1) M_Scribe_writeSpots 0 0 21 [(2, v0), (2, v1), (3, v2), (2, v3), (0, v4), (0, v5), (0, v6), zJ, zJ, zJ] [(0, m v1 1), (0, v6)] kd m (zqV kd q)
  refine EvX.icmp_ge (off := 91) (tgt := 112) (by decide +kernel) (by decide) (fun hc => ?_) (fun hc => ?_)
  · have h := h.1 hc
    refine EvX.blk (pc' := 115) [(.iinc 5 1, 0, 0)] (by decide +kernel) trivial ?_
    show Ev (d + 1) M_Scribe_writeSpots 0 0 115 [(2, v0), (2, v1), (3, v2), (2, v3), (0, v4), (0, iw (v5 + 1)), (0, v6), zJ, zJ, zJ] [] kd m (zqV kd q)
    refine EvX.goto (off := (-112)) (tgt := 3) (by decide +kernel) (by decide) ?_
    exact EvX.weak (ls2 := [(2, v0), (2, v1), (3, v2), (2, v3), (0, v4), (0, iw (v5 + 1)), zJ, zJ, zJ, zJ]) (zwk_of ⟨Or.inr rfl, Or.inr rfl, Or.inr rfl, Or.inr rfl, Or.inr rfl, Or.inr rfl, Or.inl rfl, Or.inl rfl, Or.inl rfl, Or.inl rfl, trivial⟩) h
  · have h := h.2 hc
    refine EvX.blk (pc' := 27) [(.iconst 0, 0, 0), (.istore 7, 0, 0)] (by decide +kernel) trivial ?_
    show Ev (d + 1) M_Scribe_writeSpots 0 0 27 [(2, v0), (2, v1), (3, v2), (2, v3), (0, v4), (0, v5), (0, v6), (0, 0), zJ, zJ] [] kd m (zqV kd q)
    exact h
set_option maxRecDepth 20000 in
set_option maxHeartbeats 1000000 in
theorem T_Scribe_writeSpots_27 {d : Nat} {kd : ZK} {m : ZM} {q : ZM → Prop} {v0 v1 v2 v3 v4 v5 v6 v7 : Int} (h : (zobj kd v1 1 ∧ (((m v1 2) ≤ v7 → (Ev (d + 1) M_Scribe_writeSpots 0 0 15 [(2, v0), (2, v1), (3, v2), (2, v3), (0, v4), (0, v5), (0, iw (v6 + 1)), zJ, zJ, zJ] [] kd m (zqV kd q))) ∧ (¬ (m v1 2) ≤ v7 → (Ev (d + 1) M_Scribe_writeSpots 0 0 39 [(2, v0), (2, v1), (3, v2), (2, v3), (0, v4), (0, v5), (0, v6), (0, v7), (0, 0), zJ] [] kd m (zqV kd q)))))) : Ev (d + 1) M_Scribe_writeSpots 0 0 27 [(2, v0), (2, v1), (3, v2), (2, v3), (0, v4), (0, v5), (0, v6), (0, v7), zJ, zJ] [] kd m (zqV kd q) := by
  obtain ⟨o1, h⟩ := h
  refine EvX.blk (pc' := 33) [(.iload 7, 0, 0), (.aload_n 1, 0, 0), (.getfield 43, 1, 2)] (by decide +kernel) ⟨g_Scribe_43, trivial⟩ ⟨o1, ?_⟩
  show Ev (d + 1) M_Scribe_writeSpots 0 0 33 [(2, v0), (2, v1), (3, v2), (2, v3), (0, v4), (0, v5), (0, v6), (0, v7), zJ, zJ] [(0, m v1 2), (0, v7)] kd m (zqV kd q)
  refine EvX.icmp_ge (off := 73) (tgt := 106) (by decide +kernel) (by decide) (fun hc => ?_) (fun hc => ?_)
  · have h := h.1 hc
    refine EvX.blk (pc' := 109) [(.iinc 6 1, 0, 0)] (by decide +kernel) trivial ?_
    show Ev (d + 1) M_Scribe_writeSpots 0 0 109 [(2, v0), (2, v1), (3, v2), (2, v3), (0, v4), (0, v5), (0, iw (v6 + 1)), (0, v7), zJ, zJ] [] kd m (zqV kd q)
    refine EvX.goto (off := (-94)) (tgt := 15) (by decide +kernel) (by decide) ?_
    exact EvX.weak (ls2 := [(2, v0), (2, v1), (3, v2), (2, v3), (0, v4), (0, v5), (0, iw (v6 + 1)), zJ, zJ, zJ]) (zwk_of ⟨Or.inr rfl, Or.inr rfl, Or.inr rfl, Or.inr rfl, Or.inr rfl, Or.inr rfl, Or.inr rfl, Or.inl rfl, Or.inl rfl, Or.inl rfl, trivial⟩) h
  · have h := h.2 hc
    refine EvX.blk (pc' := 39) [(.iconst 0, 0, 0), (.istore 8, 0, 0)] (by decide +kernel) trivial ?_
    show Ev (d + 1) M_Scribe_writeSpots 0 0 39 [(2, v0), (2, v1), (3, v2), (2, v3), (0, v4), (0, v5), (0, v6), (0, v7), (0, 0), zJ] [] kd m (zqV kd q)
    exact h
set_option maxRecDepth 20000 in
set_option maxHeartbeats 1000000 in
theorem T_Scribe_writeSpots_39 {d : Nat} {kd : ZK} {m : ZM} {q : ZM → Prop} {v0 v1 v2 v3 v4 v5 v6 v7 v8 : Int} (h : (zobj kd v1 1 ∧ (((m v1 3) ≤ v8 → (Ev (d + 1) M_Scribe_writeSpots 0 0 27 [(2, v0), (2, v1), (3, v2), (2, v3), (0, v4), (0, v5), (0, v6), (0, iw (v7 + 1)), zJ, zJ] [] kd m (zqV kd q))) ∧ (¬ (m v1 3) ≤ v8 → (∃ q1, CtI d M_Ap_spotOf [(0, 0), (0, v5), (0, v6), (0, v7), (0, v8)] kd m q1 ∧ ∀ x2 m3, q1 x2 m3 → (zIn kd v3 0 x2 ∧ (((m3 v3 x2) = 0 → (Ev (d + 1) M_Scribe_writeSpots 0 0 39 [(2, v0), (2, v1), (3, v2), (2, v3), (0, v4), (0, v5), (0, v6), (0, v7), (0, iw (v8 + 1)), zJ] [] kd m3 (zqV kd q))) ∧ (¬ (m3 v3 x2) = 0 → (zobj kd v0 3 ∧ ∃ q4, CtV d M_Scribe_writeWord [(2, v0), (3, v2)] kd m3 q4 ∧ ∀ m6, q4 m6 → (zobj kd v0 3 ∧ ∃ q7, CtV d M_Scribe_writeSpot [(2, v0), (0, v5), (0, v6), (0, v7), (0, v8)] kd m6 q7 ∧ ∀ m9, q7 m9 → (zobj kd v0 3 ∧ ∃ q10, CtV d M_Scribe_writeEntry [(2, v0), (0, m3 v3 x2), (0, v4)] kd m9 q10 ∧ ∀ m12, q10 m12 → (Ev (d + 1) M_Scribe_writeSpots 0 0 39 [(2, v0), (2, v1), (3, v2), (2, v3), (0, v4), (0, v5), (0, v6), (0, v7), (0, iw (v8 + 1)), zJ] [] kd m12 (zqV kd q))))))))))))) : Ev (d + 1) M_Scribe_writeSpots 0 0 39 [(2, v0), (2, v1), (3, v2), (2, v3), (0, v4), (0, v5), (0, v6), (0, v7), (0, v8), zJ] [] kd m (zqV kd q) := by
  obtain ⟨o1, h⟩ := h
  refine EvX.blk (pc' := 45) [(.iload 8, 0, 0), (.aload_n 1, 0, 0), (.getfield 46, 1, 3)] (by decide +kernel) ⟨g_Scribe_46, trivial⟩ ⟨o1, ?_⟩
  show Ev (d + 1) M_Scribe_writeSpots 0 0 45 [(2, v0), (2, v1), (3, v2), (2, v3), (0, v4), (0, v5), (0, v6), (0, v7), (0, v8), zJ] [(0, m v1 3), (0, v8)] kd m (zqV kd q)
  refine EvX.icmp_ge (off := 55) (tgt := 100) (by decide +kernel) (by decide) (fun hc => ?_) (fun hc => ?_)
  · have h := h.1 hc
    refine EvX.blk (pc' := 103) [(.iinc 7 1, 0, 0)] (by decide +kernel) trivial ?_
    show Ev (d + 1) M_Scribe_writeSpots 0 0 103 [(2, v0), (2, v1), (3, v2), (2, v3), (0, v4), (0, v5), (0, v6), (0, iw (v7 + 1)), (0, v8), zJ] [] kd m (zqV kd q)
    refine EvX.goto (off := (-76)) (tgt := 27) (by decide +kernel) (by decide) ?_
    exact EvX.weak (ls2 := [(2, v0), (2, v1), (3, v2), (2, v3), (0, v4), (0, v5), (0, v6), (0, iw (v7 + 1)), zJ, zJ]) (zwk_of ⟨Or.inr rfl, Or.inr rfl, Or.inr rfl, Or.inr rfl, Or.inr rfl, Or.inr rfl, Or.inr rfl, Or.inr rfl, Or.inl rfl, Or.inl rfl, trivial⟩) h
  · have h := h.2 hc
    refine EvX.blk (pc' := 58) [(.aload_n 3, 0, 0), (.iconst 0, 0, 0), (.iload 5, 0, 0), (.iload 6, 0, 0), (.iload 7, 0, 0), (.iload 8, 0, 0)] (by decide +kernel) trivial ?_
    show Ev (d + 1) M_Scribe_writeSpots 0 0 58 [(2, v0), (2, v1), (3, v2), (2, v3), (0, v4), (0, v5), (0, v6), (0, v7), (0, v8), zJ] [(0, v8), (0, v7), (0, v6), (0, v5), (0, 0), (2, v3)] kd m (zqV kd q)
    obtain ⟨q1, hq, h⟩ := h
    refine EvX.callS (mc := 0) (ms := 0) (as := [(0, 0), (0, v5), (0, v6), (0, v7), (0, v8)]) (st := [(2, v3)]) (by decide +kernel) l_Scribe_77 k_Ap_spotOf s_Ap_spotOf a_Ap_spotOf (by decide) (Nat.le_of_ble_eq_true rfl) hq (fun r kd1 m3 hr => ?_)
    obtain ⟨x2, rfl, hk, hr⟩ := hr
    subst kd1
    have h := h x2 m3 hr
    show Ev (d + 1) M_Scribe_writeSpots 0 0 61 [(2, v0), (2, v1), (3, v2), (2, v3), (0, v4), (0, v5), (0, v6), (0, v7), (0, v8), zJ] [(0, x2), (2, v3)] kd m3 (zqV kd q)
    obtain ⟨o1, h⟩ := h
    refine EvX.blk (pc' := 66) [(.iaload, 0, 0), (.istore 9, 0, 0), (.iload 9, 0, 0)] (by decide +kernel) trivial ⟨o1, ?_⟩
    show Ev (d + 1) M_Scribe_writeSpots 0 0 66 [(2, v0), (2, v1), (3, v2), (2, v3), (0, v4), (0, v5), (0, v6), (0, v7), (0, v8), (0, m3 v3 x2)] [(0, m3 v3 x2)] kd m3 (zqV kd q)
    refine EvX.if_eq (off := 28) (tgt := 94) (by decide +kernel) (by decide) (fun hc => ?_) (fun hc => ?_)
    · have h := h.1 hc
      refine EvX.blk (pc' := 97) [(.iinc 8 1, 0, 0)] (by decide +kernel) trivial ?_
      show Ev (d + 1) M_Scribe_writeSpots 0 0 97 [(2, v0), (2, v1), (3, v2), (2, v3), (0, v4), (0, v5), (0, v6), (0, v7), (0, iw (v8 + 1)), (0, m3 v3 x2)] [] kd m3 (zqV kd q)
      refine EvX.goto (off := (-58)) (tgt := 39) (by decide +kernel) (by decide) ?_
      exact EvX.weak (ls2 := [(2, v0), (2, v1), (3, v2), (2, v3), (0, v4), (0, v5), (0, v6), (0, v7), (0, iw (v8 + 1)), zJ]) (zwk_of ⟨Or.inr rfl, Or.inr rfl, Or.inr rfl, Or.inr rfl, Or.inr rfl, Or.inr rfl, Or.inr rfl, Or.inr rfl, Or.inr rfl, Or.inl rfl, trivial⟩) h
    · have h := h.2 hc
      refine EvX.blk (pc' := 71) [(.aload_n 0, 0, 0), (.aload_n 2, 0, 0)] (by decide +kernel) trivial ?_
      show Ev (d + 1) M_Scribe_writeSpots 0 0 71 [(2, v0), (2, v1), (3, v2), (2, v3), (0, v4), (0, v5), (0, v6), (0, v7), (0, v8), (0, m3 v3 x2)] [(3, v2), (2, v0)] kd m3 (zqV kd q)
      obtain ⟨ov, h⟩ := h
      obtain ⟨q4, hq, h⟩ := h
      refine EvX.callV (c := 3) (mc := 0) (ms := 0) (as := [(3, v2)]) (st := []) (by decide +kernel) l_Scribe_29 k_Scribe_writeWord v_Scribe_writeWord a_Scribe_writeWord (by decide) (Nat.le_of_ble_eq_true rfl) rfl ov hq (fun r kd1 m6 hr => ?_)
      obtain ⟨rfl, hk, hr⟩ := hr
      subst kd1
      have h := h m6 hr
      show Ev (d + 1) M_Scribe_writeSpots 0 0 74 [(2, v0), (2, v1), (3, v2), (2, v3), (0, v4), (0, v5), (0, v6), (0, v7), (0, v8), (0, m3 v3 x2)] [] kd m6 (zqV kd q)
      refine EvX.blk (pc' := 83) [(.aload_n 0, 0, 0), (.iload 5, 0, 0), (.iload 6, 0, 0), (.iload 7, 0, 0), (.iload 8, 0, 0)] (by decide +kernel) trivial ?_
      show Ev (d + 1) M_Scribe_writeSpots 0 0 83 [(2, v0), (2, v1), (3, v2), (2, v3), (0, v4), (0, v5), (0, v6), (0, v7), (0, v8), (0, m3 v3 x2)] [(0, v8), (0, v7), (0, v6), (0, v5), (2, v0)] kd m6 (zqV kd q)
      obtain ⟨ov, h⟩ := h
      obtain ⟨q7, hq, h⟩ := h
      refine EvX.callV (c := 3) (mc := 0) (ms := 0) (as := [(0, v5), (0, v6), (0, v7), (0, v8)]) (st := []) (by decide +kernel) l_Scribe_81 k_Scribe_writeSpot v_Scribe_writeSpot a_Scribe_writeSpot (by decide) (Nat.le_of_ble_eq_true rfl) rfl ov hq (fun r kd1 m9 hr => ?_)
      obtain ⟨rfl, hk, hr⟩ := hr
      subst kd1
      have h := h m9 hr
      show Ev (d + 1) M_Scribe_writeSpots 0 0 86 [(2, v0), (2, v1), (3, v2), (2, v3), (0, v4), (0, v5), (0, v6), (0, v7), (0, v8), (0, m3 v3 x2)] [] kd m9 (zqV kd q)
      refine EvX.blk (pc' := 91) [(.aload_n 0, 0, 0), (.iload 9, 0, 0), (.iload 4, 0, 0)] (by decide +kernel) trivial ?_
      show Ev (d + 1) M_Scribe_writeSpots 0 0 91 [(2, v0), (2, v1), (3, v2), (2, v3), (0, v4), (0, v5), (0, v6), (0, v7), (0, v8), (0, m3 v3 x2)] [(0, v4), (0, m3 v3 x2), (2, v0)] kd m9 (zqV kd q)
      obtain ⟨ov, h⟩ := h
      obtain ⟨q10, hq, h⟩ := h
      refine EvX.callV (c := 3) (mc := 0) (ms := 0) (as := [(0, m3 v3 x2), (0, v4)]) (st := []) (by decide +kernel) l_Scribe_85 k_Scribe_writeEntry v_Scribe_writeEntry a_Scribe_writeEntry (by decide) (Nat.le_of_ble_eq_true rfl) rfl ov hq (fun r kd1 m12 hr => ?_)
      obtain ⟨rfl, hk, hr⟩ := hr
      subst kd1
      have h := h m12 hr
      show Ev (d + 1) M_Scribe_writeSpots 0 0 94 [(2, v0), (2, v1), (3, v2), (2, v3), (0, v4), (0, v5), (0, v6), (0, v7), (0, v8), (0, m3 v3 x2)] [] kd m12 (zqV kd q)
      refine EvX.blk (pc' := 97) [(.iinc 8 1, 0, 0)] (by decide +kernel) trivial ?_
      show Ev (d + 1) M_Scribe_writeSpots 0 0 97 [(2, v0), (2, v1), (3, v2), (2, v3), (0, v4), (0, v5), (0, v6), (0, v7), (0, iw (v8 + 1)), (0, m3 v3 x2)] [] kd m12 (zqV kd q)
      refine EvX.goto (off := (-58)) (tgt := 39) (by decide +kernel) (by decide) ?_
      exact EvX.weak (ls2 := [(2, v0), (2, v1), (3, v2), (2, v3), (0, v4), (0, v5), (0, v6), (0, v7), (0, iw (v8 + 1)), zJ]) (zwk_of ⟨Or.inr rfl, Or.inr rfl, Or.inr rfl, Or.inr rfl, Or.inr rfl, Or.inr rfl, Or.inr rfl, Or.inr rfl, Or.inr rfl, Or.inl rfl, trivial⟩) h
set_option maxRecDepth 20000 in
set_option maxHeartbeats 1000000 in
theorem T_Scribe_writeSpot_0 {d : Nat} {kd : ZK} {m : ZM} {q : ZM → Prop} {v0 v1 v2 v3 v4 : Int} (h : (zobj kd v0 3 ∧ ∃ q1, CtV d M_Scribe_writeNumber [(2, v0), (0, v1)] kd m q1 ∧ ∀ m3, q1 m3 → (zobj kd v0 3 ∧ ∃ q4, CtV d M_Scribe_writeNumber [(2, v0), (0, v2)] kd m3 q4 ∧ ∀ m6, q4 m6 → (zobj kd v0 3 ∧ ∃ q7, CtV d M_Scribe_writeNumber [(2, v0), (0, v3)] kd m6 q7 ∧ ∀ m9, q7 m9 → (zobj kd v0 3 ∧ ∃ q10, CtV d M_Scribe_writeNumber [(2, v0), (0, v4)] kd m9 q10 ∧ ∀ m12, q10 m12 → q m12))))) : Ev (d + 1) M_Scribe_writeSpot 0 0 0 [(2, v0), (0, v1), (0, v2), (0, v3), (0, v4)] [] kd m (zqV kd q) := by
  refine EvX.blk (pc' := 2) [(.aload_n 0, 0, 0), (.iload_n 1, 0, 0)] (by decide +kernel) trivial ?_
  show Ev (d + 1) M_Scribe_writeSpot 0 0 2 [(2, v0), (0, v1), (0, v2), (0, v3), (0, v4)] [(0, v1), (2, v0)] kd m (zqV kd q)
  obtain ⟨ov, h⟩ := h
  obtain ⟨q1, hq, h⟩ := h
  refine EvX.callV (c := 3) (mc := 0) (ms := 0) (as := [(0, v1)]) (st := []) (by decide +kernel) l_Scribe_36 k_Scribe_writeNumber v_Scribe_writeNumber a_Scribe_writeNumber (by decide) (Nat.le_of_ble_eq_true rfl) rfl ov hq (fun r kd1 m3 hr => ?_)
  obtain ⟨rfl, hk, hr⟩ := hr
  subst kd1
  have h := h m3 hr
  show Ev (d + 1) M_Scribe_writeSpot 0 0 5 [(2, v0), (0, v1), (0, v2), (0, v3), (0, v4)] [] kd m3 (zqV kd q)
  refine EvX.blk (pc' := 7) [(.aload_n 0, 0, 0), (.iload_n 2, 0, 0)] (by decide +kernel) trivial ?_
  show Ev (d + 1) M_Scribe_writeSpot 0 0 7 [(2, v0), (0, v1), (0, v2), (0, v3), (0, v4)] [(0, v2), (2, v0)] kd m3 (zqV kd q)
  obtain ⟨ov, h⟩ := h
  obtain ⟨q4, hq, h⟩ := h
  refine EvX.callV (c := 3) (mc := 0) (ms := 0) (as := [(0, v2)]) (st := []) (by decide +kernel) l_Scribe_36 k_Scribe_writeNumber v_Scribe_writeNumber a_Scribe_writeNumber (by decide) (Nat.le_of_ble_eq_true rfl) rfl ov hq (fun r kd1 m6 hr => ?_)
  obtain ⟨rfl, hk, hr⟩ := hr
  subst kd1
  have h := h m6 hr
  show Ev (d + 1) M_Scribe_writeSpot 0 0 10 [(2, v0), (0, v1), (0, v2), (0, v3), (0, v4)] [] kd m6 (zqV kd q)
  refine EvX.blk (pc' := 12) [(.aload_n 0, 0, 0), (.iload_n 3, 0, 0)] (by decide +kernel) trivial ?_
  show Ev (d + 1) M_Scribe_writeSpot 0 0 12 [(2, v0), (0, v1), (0, v2), (0, v3), (0, v4)] [(0, v3), (2, v0)] kd m6 (zqV kd q)
  obtain ⟨ov, h⟩ := h
  obtain ⟨q7, hq, h⟩ := h
  refine EvX.callV (c := 3) (mc := 0) (ms := 0) (as := [(0, v3)]) (st := []) (by decide +kernel) l_Scribe_36 k_Scribe_writeNumber v_Scribe_writeNumber a_Scribe_writeNumber (by decide) (Nat.le_of_ble_eq_true rfl) rfl ov hq (fun r kd1 m9 hr => ?_)
  obtain ⟨rfl, hk, hr⟩ := hr
  subst kd1
  have h := h m9 hr
  show Ev (d + 1) M_Scribe_writeSpot 0 0 15 [(2, v0), (0, v1), (0, v2), (0, v3), (0, v4)] [] kd m9 (zqV kd q)
  refine EvX.blk (pc' := 18) [(.aload_n 0, 0, 0), (.iload 4, 0, 0)] (by decide +kernel) trivial ?_
  show Ev (d + 1) M_Scribe_writeSpot 0 0 18 [(2, v0), (0, v1), (0, v2), (0, v3), (0, v4)] [(0, v4), (2, v0)] kd m9 (zqV kd q)
  obtain ⟨ov, h⟩ := h
  obtain ⟨q10, hq, h⟩ := h
  refine EvX.callV (c := 3) (mc := 0) (ms := 0) (as := [(0, v4)]) (st := []) (by decide +kernel) l_Scribe_36 k_Scribe_writeNumber v_Scribe_writeNumber a_Scribe_writeNumber (by decide) (Nat.le_of_ble_eq_true rfl) rfl ov hq (fun r kd1 m12 hr => ?_)
  obtain ⟨rfl, hk, hr⟩ := hr
  subst kd1
  have h := h m12 hr
  show Ev (d + 1) M_Scribe_writeSpot 0 0 21 [(2, v0), (0, v1), (0, v2), (0, v3), (0, v4)] [] kd m12 (zqV kd q)
  exact EvX.ret (r := zJ) (by decide +kernel) rfl ⟨rfl, rfl, h⟩
theorem S_Scribe_writeSpot {d : Nat} {kd : ZK} {m : ZM} {q : ZM → Prop} {v0 v1 v2 v3 v4 : Int} (h : (zobj kd v0 3 ∧ ∃ q1, CtV d M_Scribe_writeNumber [(2, v0), (0, v1)] kd m q1 ∧ ∀ m3, q1 m3 → (zobj kd v0 3 ∧ ∃ q4, CtV d M_Scribe_writeNumber [(2, v0), (0, v2)] kd m3 q4 ∧ ∀ m6, q4 m6 → (zobj kd v0 3 ∧ ∃ q7, CtV d M_Scribe_writeNumber [(2, v0), (0, v3)] kd m6 q7 ∧ ∀ m9, q7 m9 → (zobj kd v0 3 ∧ ∃ q10, CtV d M_Scribe_writeNumber [(2, v0), (0, v4)] kd m9 q10 ∧ ∀ m12, q10 m12 → q m12))))) : CtV (d + 1) M_Scribe_writeSpot [(2, v0), (0, v1), (0, v2), (0, v3), (0, v4)] kd m q :=
  Ct.start k_Scribe_writeSpot (Nat.le_of_ble_eq_true rfl) ⟨0, Or.inl ⟨rfl, rfl⟩⟩ (T_Scribe_writeSpot_0 h)
set_option maxRecDepth 20000 in
set_option maxHeartbeats 1000000 in
theorem T_Scribe_writeEntry_0 {d : Nat} {kd : ZK} {m : ZM} {q : ZM → Prop} {v0 v1 v2 : Int} (h : ((v2 = 0 → q m) ∧ (¬ v2 = 0 → (zobj kd v0 3 ∧ ∃ q1, CtV d M_Scribe_writeNumber [(2, v0), (0, v1)] kd m q1 ∧ ∀ m3, q1 m3 → q m3)))) : Ev (d + 1) M_Scribe_writeEntry 0 0 0 [(2, v0), (0, v1), (0, v2)] [] kd m (zqV kd q) := by
  refine EvX.blk (pc' := 1) [(.iload_n 2, 0, 0)] (by decide +kernel) trivial ?_
  show Ev (d + 1) M_Scribe_writeEntry 0 0 1 [(2, v0), (0, v1), (0, v2)] [(0, v2)] kd m (zqV kd q)
  refine EvX.if_eq (off := 8) (tgt := 9) (by decide +kernel) (by decide) (fun hc => ?_) (fun hc => ?_)
  · have h := h.1 hc
    exact EvX.ret (r := zJ) (by decide +kernel) rfl ⟨rfl, rfl, h⟩
  · have h := h.2 hc
    refine EvX.blk (pc' := 6) [(.aload_n 0, 0, 0), (.iload_n 1, 0, 0)] (by decide +kernel) trivial ?_
    show Ev (d + 1) M_Scribe_writeEntry 0 0 6 [(2, v0), (0, v1), (0, v2)] [(0, v1), (2, v0)] kd m (zqV kd q)
    obtain ⟨ov, h⟩ := h
    obtain ⟨q1, hq, h⟩ := h
    refine EvX.callV (c := 3) (mc := 0) (ms := 0) (as := [(0, v1)]) (st := []) (by decide +kernel) l_Scribe_36 k_Scribe_writeNumber v_Scribe_writeNumber a_Scribe_writeNumber (by decide) (Nat.le_of_ble_eq_true rfl) rfl ov hq (fun r kd1 m3 hr => ?_)
    obtain ⟨rfl, hk, hr⟩ := hr
    subst kd1
    have h := h m3 hr
    show Ev (d + 1) M_Scribe_writeEntry 0 0 9 [(2, v0), (0, v1), (0, v2)] [] kd m3 (zqV kd q)
    exact EvX.ret (r := zJ) (by decide +kernel) rfl ⟨rfl, rfl, h⟩
theorem S_Scribe_writeEntry {d : Nat} {kd : ZK} {m : ZM} {q : ZM → Prop} {v0 v1 v2 : Int} (h : ((v2 = 0 → q m) ∧ (¬ v2 = 0 → (zobj kd v0 3 ∧ ∃ q1, CtV d M_Scribe_writeNumber [(2, v0), (0, v1)] kd m q1 ∧ ∀ m3, q1 m3 → q m3)))) : CtV (d + 1) M_Scribe_writeEntry [(2, v0), (0, v1), (0, v2)] kd m q :=
  Ct.start k_Scribe_writeEntry (Nat.le_of_ble_eq_true rfl) ⟨0, Or.inl ⟨rfl, rfl⟩⟩ (T_Scribe_writeEntry_0 h)
set_option maxRecDepth 20000 in
set_option maxHeartbeats 1000000 in
theorem T_Scribe_writeWord_0 {d : Nat} {kd : ZK} {m : ZM} {q : ZM → Prop} {v0 v1 : Int} (h : (Ev (d + 1) M_Scribe_writeWord 0 0 2 [(2, v0), (3, v1), (0, 0)] [] kd m (zqV kd q))) : Ev (d + 1) M_Scribe_writeWord 0 0 0 [(2, v0), (3, v1), zJ] [] kd m (zqV kd q) := by
  refine EvX.blk (pc' := 2) [(.iconst 0, 0, 0), (.istore_n 2, 0, 0)] (by decide +kernel) trivial ?_
  show Ev (d + 1) M_Scribe_writeWord 0 0 2 [(2, v0), (3, v1), (0, 0)] [] kd m (zqV kd q)
  exact h
theorem S_Scribe_writeWord {d : Nat} {kd : ZK} {m : ZM} {q : ZM → Prop} {v0 v1 : Int} (h : (Ev (d + 1) M_Scribe_writeWord 0 0 2 [(2, v0), (3, v1), (0, 0)] [] kd m (zqV kd q))) : CtV (d + 1) M_Scribe_writeWord [(2, v0), (3, v1)] kd m q :=
  Ct.start k_Scribe_writeWord (Nat.le_of_ble_eq_true rfl) ⟨0, Or.inl ⟨rfl, rfl⟩⟩ (T_Scribe_writeWord_0 h)
set_option maxRecDepth 20000 in
set_option maxHeartbeats 1000000 in
theorem T_Scribe_writeWord_2 {d : Nat} {kd : ZK} {m : ZM} {q : ZM → Prop} {v0 v1 v2 : Int} (h : ((v1).toNat < zsN ∧ ∃ q1, CtI d M_Str_length [(3, v1)] kd m q1 ∧ ∀ x2 m3, q1 x2 m3 → ((x2 ≤ v2 → q m3) ∧ (¬ x2 ≤ v2 → ((v1).toNat < zsN ∧ ∃ q4, CtI d M_Str_charAt [(3, v1), (0, v2)] kd m3 q4 ∧ ∀ x5 m6, q4 x5 m6 → (zobj kd v0 3 ∧ ∃ q7, CtV d M_Scribe_put [(2, v0), (0, x5)] kd m6 q7 ∧ ∀ m9, q7 m9 → (Ev (d + 1) M_Scribe_writeWord 0 0 2 [(2, v0), (3, v1), (0, iw (v2 + 1))] [] kd m9 (zqV kd q)))))))) : Ev (d + 1) M_Scribe_writeWord 0 0 2 [(2, v0), (3, v1), (0, v2)] [] kd m (zqV kd q) := by
  refine EvX.blk (pc' := 4) [(.iload_n 2, 0, 0), (.aload_n 1, 0, 0)] (by decide +kernel) trivial ?_
  show Ev (d + 1) M_Scribe_writeWord 0 0 4 [(2, v0), (3, v1), (0, v2)] [(3, v1), (0, v2)] kd m (zqV kd q)
  obtain ⟨oi, h⟩ := h
  obtain ⟨q1, hq, h⟩ := h
  refine EvX.callT (mc := 0) (ms := 0) (as := []) (st := [(0, v2)]) (by decide +kernel) l_Scribe_89 k_Str_length v_Str_length a_Str_length (by decide) (Nat.le_of_ble_eq_true rfl) rfl oi hq (fun r kd1 m3 hr => ?_)
  obtain ⟨x2, rfl, hk, hr⟩ := hr
  subst kd1
  have h := h x2 m3 hr
  show Ev (d + 1) M_Scribe_writeWord 0 0 7 [(2, v0), (3, v1), (0, v2)] [(0, x2), (0, v2)] kd m3 (zqV kd q)
  refine EvX.icmp_ge (off := 18) (tgt := 25) (by decide +kernel) (by decide) (fun hc => ?_) (fun hc => ?_)
  · have h := h.1 hc
    exact EvX.ret (r := zJ) (by decide +kernel) rfl ⟨rfl, rfl, h⟩
  · have h := h.2 hc
    refine EvX.blk (pc' := 13) [(.aload_n 0, 0, 0), (.aload_n 1, 0, 0), (.iload_n 2, 0, 0)] (by decide +kernel) trivial ?_
    show Ev (d + 1) M_Scribe_writeWord 0 0 13 [(2, v0), (3, v1), (0, v2)] [(0, v2), (3, v1), (2, v0)] kd m3 (zqV kd q)
    obtain ⟨oi, h⟩ := h
    obtain ⟨q4, hq, h⟩ := h
    refine EvX.callT (mc := 0) (ms := 0) (as := [(0, v2)]) (st := [(2, v0)]) (by decide +kernel) l_Scribe_94 k_Str_charAt v_Str_charAt a_Str_charAt (by decide) (Nat.le_of_ble_eq_true rfl) rfl oi hq (fun r kd1 m6 hr => ?_)
    obtain ⟨x5, rfl, hk, hr⟩ := hr
    subst kd1
    have h := h x5 m6 hr
    show Ev (d + 1) M_Scribe_writeWord 0 0 16 [(2, v0), (3, v1), (0, v2)] [(0, x5), (2, v0)] kd m6 (zqV kd q)
    obtain ⟨ov, h⟩ := h
    obtain ⟨q7, hq, h⟩ := h
    refine EvX.callV (c := 3) (mc := 0) (ms := 0) (as := [(0, x5)]) (st := []) (by decide +kernel) l_Scribe_98 k_Scribe_put v_Scribe_put a_Scribe_put (by decide) (Nat.le_of_ble_eq_true rfl) rfl ov hq (fun r kd1 m9 hr => ?_)
    obtain ⟨rfl, hk, hr⟩ := hr
    subst kd1
    have h := h m9 hr
    show Ev (d + 1) M_Scribe_writeWord 0 0 19 [(2, v0), (3, v1), (0, v2)] [] kd m9 (zqV kd q)
    refine EvX.blk (pc' := 22) [(.iinc 2 1, 0, 0)] (by decide +kernel) trivial ?_
    show Ev (d + 1) M_Scribe_writeWord 0 0 22 [(2, v0), (3, v1), (0, iw (v2 + 1))] [] kd m9 (zqV kd q)
    refine EvX.goto (off := (-20)) (tgt := 2) (by decide +kernel) (by decide) ?_
    exact h
set_option maxRecDepth 20000 in
set_option maxHeartbeats 1000000 in
theorem T_Scribe_writeNumber_0 {d : Nat} {kd : ZK} {m : ZM} {q : ZM → Prop} {v0 v1 : Int} (h : (zobj kd v0 3 ∧ ∃ q1, CtV d M_Scribe_put [(2, v0), (0, 32)] kd m q1 ∧ ∀ m3, q1 m3 → ((v1 < 10 → (zobj kd v0 3 ∧ ∃ q4, CtV d M_Scribe_put [(2, v0), (0, iw (48 + (Int.tmod v1 10)))] kd m3 q4 ∧ ∀ m6, q4 m6 → q m6)) ∧ (¬ v1 < 10 → (zobj kd v0 3 ∧ ∃ q7, CtV d M_Scribe_put [(2, v0), (0, iw (48 + (iw (Int.tdiv v1 10))))] kd m3 q7 ∧ ∀ m9, q7 m9 → (zobj kd v0 3 ∧ ∃ q10, CtV d M_Scribe_put [(2, v0), (0, iw (48 + (Int.tmod v1 10)))] kd m9 q10 ∧ ∀ m12, q10 m12 → q m12)))))) : Ev (d + 1) M_Scribe_writeNumber 0 0 0 [(2, v0), (0, v1)] [] kd m (zqV kd q) := by
  refine EvX.blk (pc' := 3) [(.aload_n 0, 0, 0), (.bipush 32, 0, 0)] (by decide +kernel) trivial ?_
  show Ev (d + 1) M_Scribe_writeNumber 0 0 3 [(2, v0), (0, v1)] [(0, 32), (2, v0)] kd m (zqV kd q)
  obtain ⟨ov, h⟩ := h
  obtain ⟨q1, hq, h⟩ := h
  refine EvX.callV (c := 3) (mc := 0) (ms := 0) (as := [(0, 32)]) (st := []) (by decide +kernel) l_Scribe_98 k_Scribe_put v_Scribe_put a_Scribe_put (by decide) (Nat.le_of_ble_eq_true rfl) rfl ov hq (fun r kd1 m3 hr => ?_)
  obtain ⟨rfl, hk, hr⟩ := hr
  subst kd1
  have h := h m3 hr
  show Ev (d + 1) M_Scribe_writeNumber 0 0 6 [(2, v0), (0, v1)] [] kd m3 (zqV kd q)
  refine EvX.blk (pc' := 9) [(.iload_n 1, 0, 0), (.bipush 10, 0, 0)] (by decide +kernel) trivial ?_
  show Ev (d + 1) M_Scribe_writeNumber 0 0 9 [(2, v0), (0, v1)] [(0, 10), (0, v1)] kd m3 (zqV kd q)
  refine EvX.icmp_lt (off := 14) (tgt := 23) (by decide +kernel) (by decide) (fun hc => ?_) (fun hc => ?_)
  · have h := h.1 hc
    refine EvX.blk (pc' := 31) [(.aload_n 0, 0, 0), (.bipush 48, 0, 0), (.iload_n 1, 0, 0), (.bipush 10, 0, 0), (.irem, 0, 0), (.iadd, 0, 0)] (by decide +kernel) trivial ⟨by decide, ?_⟩
    show Ev (d + 1) M_Scribe_writeNumber 0 0 31 [(2, v0), (0, v1)] [(0, iw (48 + (Int.tmod v1 10))), (2, v0)] kd m3 (zqV kd q)
    obtain ⟨ov, h⟩ := h
    obtain ⟨q4, hq, h⟩ := h
    refine EvX.callV (c := 3) (mc := 0) (ms := 0) (as := [(0, iw (48 + (Int.tmod v1 10)))]) (st := []) (by decide +kernel) l_Scribe_98 k_Scribe_put v_Scribe_put a_Scribe_put (by decide) (Nat.le_of_ble_eq_true rfl) rfl ov hq (fun r kd1 m6 hr => ?_)
    obtain ⟨rfl, hk, hr⟩ := hr
    subst kd1
    have h := h m6 hr
    show Ev (d + 1) M_Scribe_writeNumber 0 0 34 [(2, v0), (0, v1)] [] kd m6 (zqV kd q)
    exact EvX.ret (r := zJ) (by decide +kernel) rfl ⟨rfl, rfl, h⟩
  · have h := h.2 hc
    refine EvX.blk (pc' := 20) [(.aload_n 0, 0, 0), (.bipush 48, 0, 0), (.iload_n 1, 0, 0), (.bipush 10, 0, 0), (.idiv, 0, 0), (.iadd, 0, 0)] (by decide +kernel) trivial ⟨by decide, ?_⟩
    show Ev (d + 1) M_Scribe_writeNumber 0 0 20 [(2, v0), (0, v1)] [(0, iw (48 + (iw (Int.tdiv v1 10)))), (2, v0)] kd m3 (zqV kd q)
    obtain ⟨ov, h⟩ := h
    obtain ⟨q7, hq, h⟩ := h
    refine EvX.callV (c := 3) (mc := 0) (ms := 0) (as := [(0, iw (48 + (iw (Int.tdiv v1 10))))]) (st := []) (by decide +kernel) l_Scribe_98 k_Scribe_put v_Scribe_put a_Scribe_put (by decide) (Nat.le_of_ble_eq_true rfl) rfl ov hq (fun r kd1 m9 hr => ?_)
    obtain ⟨rfl, hk, hr⟩ := hr
    subst kd1
    have h := h m9 hr
    show Ev (d + 1) M_Scribe_writeNumber 0 0 23 [(2, v0), (0, v1)] [] kd m9 (zqV kd q)
    refine EvX.blk (pc' := 31) [(.aload_n 0, 0, 0), (.bipush 48, 0, 0), (.iload_n 1, 0, 0), (.bipush 10, 0, 0), (.irem, 0, 0), (.iadd, 0, 0)] (by decide +kernel) trivial ⟨by decide, ?_⟩
    show Ev (d + 1) M_Scribe_writeNumber 0 0 31 [(2, v0), (0, v1)] [(0, iw (48 + (Int.tmod v1 10))), (2, v0)] kd m9 (zqV kd q)
    obtain ⟨ov, h⟩ := h
    obtain ⟨q10, hq, h⟩ := h
    refine EvX.callV (c := 3) (mc := 0) (ms := 0) (as := [(0, iw (48 + (Int.tmod v1 10)))]) (st := []) (by decide +kernel) l_Scribe_98 k_Scribe_put v_Scribe_put a_Scribe_put (by decide) (Nat.le_of_ble_eq_true rfl) rfl ov hq (fun r kd1 m12 hr => ?_)
    obtain ⟨rfl, hk, hr⟩ := hr
    subst kd1
    have h := h m12 hr
    show Ev (d + 1) M_Scribe_writeNumber 0 0 34 [(2, v0), (0, v1)] [] kd m12 (zqV kd q)
    exact EvX.ret (r := zJ) (by decide +kernel) rfl ⟨rfl, rfl, h⟩
theorem S_Scribe_writeNumber {d : Nat} {kd : ZK} {m : ZM} {q : ZM → Prop} {v0 v1 : Int} (h : (zobj kd v0 3 ∧ ∃ q1, CtV d M_Scribe_put [(2, v0), (0, 32)] kd m q1 ∧ ∀ m3, q1 m3 → ((v1 < 10 → (zobj kd v0 3 ∧ ∃ q4, CtV d M_Scribe_put [(2, v0), (0, iw (48 + (Int.tmod v1 10)))] kd m3 q4 ∧ ∀ m6, q4 m6 → q m6)) ∧ (¬ v1 < 10 → (zobj kd v0 3 ∧ ∃ q7, CtV d M_Scribe_put [(2, v0), (0, iw (48 + (iw (Int.tdiv v1 10))))] kd m3 q7 ∧ ∀ m9, q7 m9 → (zobj kd v0 3 ∧ ∃ q10, CtV d M_Scribe_put [(2, v0), (0, iw (48 + (Int.tmod v1 10)))] kd m9 q10 ∧ ∀ m12, q10 m12 → q m12)))))) : CtV (d + 1) M_Scribe_writeNumber [(2, v0), (0, v1)] kd m q :=
  Ct.start k_Scribe_writeNumber (Nat.le_of_ble_eq_true rfl) ⟨0, Or.inl ⟨rfl, rfl⟩⟩ (T_Scribe_writeNumber_0 h)
set_option maxRecDepth 20000 in
set_option maxHeartbeats 1000000 in
theorem T_Scribe_put_0 {d : Nat} {kd : ZK} {m : ZM} {q : ZM → Prop} {v0 v1 : Int} (h : (zobj kd v0 3 ∧ zobj kd v0 3 ∧ (((m v0 2) ≠ (m v0 0) → (zobj kd v0 3 ∧ zobj kd v0 3 ∧ q (zup m v0 2 (iw ((m v0 2) + 1))))) ∧ (¬ (m v0 2) ≠ (m v0 0) → (zobj kd v0 3 ∧ zobj kd v0 3 ∧ zobj kd v0 3 ∧ q (zup (zup m v0 1 v1) v0 2 (iw (((zup m v0 1 v1) v0 2) + 1)))))))) : Ev (d + 1) M_Scribe_put 0 0 0 [(2, v0), (0, v1)] [] kd m (zqV kd q) := by
  obtain ⟨o1, o2, h⟩ := h
  refine EvX.blk (pc' := 8) [(.aload_n 0, 0, 0), (.getfield 18, 3, 2), (.aload_n 0, 0, 0), (.getfield 9, 3, 0)] (by decide +kernel) ⟨g_Scribe_18, g_Scribe_9, trivial⟩ ⟨o1, o2, ?_⟩
  show Ev (d + 1) M_Scribe_put 0 0 8 [(2, v0), (0, v1)] [(0, m v0 0), (0, m v0 2)] kd m (zqV kd q)
  refine EvX.icmp_ne (off := 8) (tgt := 16) (by decide +kernel) (by decide) (fun hc => ?_) (fun hc => ?_)
  · have h := h.1 hc
    obtain ⟨o1, o2, h⟩ := h
    refine EvX.blk (pc' := 26) [(.aload_n 0, 0, 0), (.dup, 0, 0), (.getfield 18, 3, 2), (.iconst 1, 0, 0), (.iadd, 0, 0), (.putfield 18, 3, 2)] (by decide +kernel) ⟨g_Scribe_18, ⟨g_Scribe_18, p_Scribe_18⟩, trivial⟩ ⟨o1, rfl, o2, ?_⟩
    show Ev (d + 1) M_Scribe_put 0 0 26 [(2, v0), (0, v1)] [] kd (zup m v0 2 (iw ((m v0 2) + 1))) (zqV kd q)
    exact EvX.ret (r := zJ) (by decide +kernel) rfl ⟨rfl, rfl, h⟩
  · have h := h.2 hc
    obtain ⟨o1, o2, o3, h⟩ := h
    refine EvX.blk (pc' := 26) [(.aload_n 0, 0, 0), (.iload_n 1, 0, 0), (.putfield 15, 3, 1), (.aload_n 0, 0, 0), (.dup, 0, 0), (.getfield 18, 3, 2), (.iconst 1, 0, 0), (.iadd, 0, 0), (.putfield 18, 3, 2)] (by decide +kernel) ⟨⟨g_Scribe_15, p_Scribe_15⟩, g_Scribe_18, ⟨g_Scribe_18, p_Scribe_18⟩, trivial⟩ ⟨rfl, o1, o2, rfl, o3, ?_⟩
    show Ev (d + 1) M_Scribe_put 0 0 26 [(2, v0), (0, v1)] [] kd (zup (zup m v0 1 v1) v0 2 (iw (((zup m v0 1 v1) v0 2) + 1))) (zqV kd q)
    exact EvX.ret (r := zJ) (by decide +kernel) rfl ⟨rfl, rfl, h⟩
theorem S_Scribe_put {d : Nat} {kd : ZK} {m : ZM} {q : ZM → Prop} {v0 v1 : Int} (h : (zobj kd v0 3 ∧ zobj kd v0 3 ∧ (((m v0 2) ≠ (m v0 0) → (zobj kd v0 3 ∧ zobj kd v0 3 ∧ q (zup m v0 2 (iw ((m v0 2) + 1))))) ∧ (¬ (m v0 2) ≠ (m v0 0) → (zobj kd v0 3 ∧ zobj kd v0 3 ∧ zobj kd v0 3 ∧ q (zup (zup m v0 1 v1) v0 2 (iw (((zup m v0 1 v1) v0 2) + 1)))))))) : CtV (d + 1) M_Scribe_put [(2, v0), (0, v1)] kd m q :=
  Ct.start k_Scribe_put (Nat.le_of_ble_eq_true rfl) ⟨0, Or.inl ⟨rfl, rfl⟩⟩ (T_Scribe_put_0 h)
