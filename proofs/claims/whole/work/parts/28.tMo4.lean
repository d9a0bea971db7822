/-! TREES of ApartGamesModel, 4: by program -/
set_option maxRecDepth 20000 in
set_option maxHeartbeats 1000000 in
theorem T_Mo_squareOf_0 {d : Nat} {kd : ZK} {m : ZM} {q : Int → ZM → Prop} {v0 v1 v2 v3 v4 : Int} (h : (zobj kd v0 8 ∧ ∃ q1, CtI d M_Mo_weightOf [(2, v0), (0, v1), (0, v3)] kd m q1 ∧ ∀ x2 m3, q1 x2 m3 → ((x2 ≤ 0 → (Ev (d + 1) M_Mo_squareOf 0 0 43 [(2, v0), (0, v1), (0, v2), (0, v3), (0, v4), zJ] [(0, 0)] kd m3 (zqI kd q))) ∧ (¬ x2 ≤ 0 → (zobj kd v0 8 ∧ ∃ q4, CtI d M_Mo_weightOf [(2, v0), (0, v1), (0, v4)] kd m3 q4 ∧ ∀ x5 m6, q4 x5 m6 → ((x5 ≤ 0 → (Ev (d + 1) M_Mo_squareOf 0 0 43 [(2, v0), (0, v1), (0, v2), (0, v3), (0, v4), zJ] [(0, 0)] kd m6 (zqI kd q))) ∧ (¬ x5 ≤ 0 → (zobj kd v0 8 ∧ ∃ q7, CtI d M_Mo_weightOf [(2, v0), (0, v2), (0, v3)] kd m6 q7 ∧ ∀ x8 m9, q7 x8 m9 → ((x8 ≤ 0 → (Ev (d + 1) M_Mo_squareOf 0 0 43 [(2, v0), (0, v1), (0, v2), (0, v3), (0, v4), zJ] [(0, 0)] kd m9 (zqI kd q))) ∧ (¬ x8 ≤ 0 → (zobj kd v0 8 ∧ ∃ q10, CtI d M_Mo_weightOf [(2, v0), (0, v2), (0, v4)] kd m9 q10 ∧ ∀ x11 m12, q10 x11 m12 → ((x11 ≤ 0 → (Ev (d + 1) M_Mo_squareOf 0 0 43 [(2, v0), (0, v1), (0, v2), (0, v3), (0, v4), zJ] [(0, 0)] kd m12 (zqI kd q))) ∧ (¬ x11 ≤ 0 → (Ev (d + 1) M_Mo_squareOf 0 0 43 [(2, v0), (0, v1), (0, v2), (0, v3), (0, v4), zJ] [(0, 1)] kd m12 (zqI kd q))))))))))))))) : Ev (d + 1) M_Mo_squareOf 0 0 0 [(2, v0), (0, v1), (0, v2), (0, v3), (0, v4), zJ] [] kd m (zqI kd q) := by
  refine EvX.blk (pc' := 3) [(.aload_n 0, 0, 0), (.iload_n 1, 0, 0), (.iload_n 3, 0, 0)] (by decide +kernel) trivial ?_
  show Ev (d + 1) M_Mo_squareOf 0 0 3 [(2, v0), (0, v1), (0, v2), (0, v3), (0, v4), zJ] [(0, v3), (0, v1), (2, v0)] kd m (zqI kd q)
  obtain ⟨ov, h⟩ := h
  obtain ⟨q1, hq, h⟩ := h
  refine EvX.callV (c := 8) (mc := 0) (ms := 0) (as := [(0, v1), (0, v3)]) (st := []) (by decide +kernel) l_Mo_180 k_Mo_weightOf v_Mo_weightOf a_Mo_weightOf (by decide) (Nat.le_of_ble_eq_true rfl) rfl ov hq (fun r kd1 m3 hr => ?_)
  obtain ⟨x2, rfl, hk, hr⟩ := hr
  subst kd1
  have h := h x2 m3 hr
  show Ev (d + 1) M_Mo_squareOf 0 0 6 [(2, v0), (0, v1), (0, v2), (0, v3), (0, v4), zJ] [(0, x2)] kd m3 (zqI kd q)
  refine EvX.if_le (off := 36) (tgt := 42) (by decide +kernel) (by decide) (fun hc => ?_) (fun hc => ?_)
  · have h := h.1 hc
    refine EvX.blk (pc' := 43) [(.iconst 0, 0, 0)] (by decide +kernel) trivial ?_
    show Ev (d + 1) M_Mo_squareOf 0 0 43 [(2, v0), (0, v1), (0, v2), (0, v3), (0, v4), zJ] [(0, 0)] kd m3 (zqI kd q)
    exact h
  · have h := h.2 hc
    refine EvX.blk (pc' := 13) [(.aload_n 0, 0, 0), (.iload_n 1, 0, 0), (.iload 4, 0, 0)] (by decide +kernel) trivial ?_
    show Ev (d + 1) M_Mo_squareOf 0 0 13 [(2, v0), (0, v1), (0, v2), (0, v3), (0, v4), zJ] [(0, v4), (0, v1), (2, v0)] kd m3 (zqI kd q)
    obtain ⟨ov, h⟩ := h
    obtain ⟨q4, hq, h⟩ := h
    refine EvX.callV (c := 8) (mc := 0) (ms := 0) (as := [(0, v1), (0, v4)]) (st := []) (by decide +kernel) l_Mo_180 k_Mo_weightOf v_Mo_weightOf a_Mo_weightOf (by decide) (Nat.le_of_ble_eq_true rfl) rfl ov hq (fun r kd1 m6 hr => ?_)
    obtain ⟨x5, rfl, hk, hr⟩ := hr
    subst kd1
    have h := h x5 m6 hr
    show Ev (d + 1) M_Mo_squareOf 0 0 16 [(2, v0), (0, v1), (0, v2), (0, v3), (0, v4), zJ] [(0, x5)] kd m6 (zqI kd q)
    refine EvX.if_le (off := 26) (tgt := 42) (by decide +kernel) (by decide) (fun hc => ?_) (fun hc => ?_)
    · have h := h.1 hc
      refine EvX.blk (pc' := 43) [(.iconst 0, 0, 0)] (by decide +kernel) trivial ?_
      show Ev (d + 1) M_Mo_squareOf 0 0 43 [(2, v0), (0, v1), (0, v2), (0, v3), (0, v4), zJ] [(0, 0)] kd m6 (zqI kd q)
      exact h
    · have h := h.2 hc
      refine EvX.blk (pc' := 22) [(.aload_n 0, 0, 0), (.iload_n 2, 0, 0), (.iload_n 3, 0, 0)] (by decide +kernel) trivial ?_
      show Ev (d + 1) M_Mo_squareOf 0 0 22 [(2, v0), (0, v1), (0, v2), (0, v3), (0, v4), zJ] [(0, v3), (0, v2), (2, v0)] kd m6 (zqI kd q)
      obtain ⟨ov, h⟩ := h
      obtain ⟨q7, hq, h⟩ := h
      refine EvX.callV (c := 8) (mc := 0) (ms := 0) (as := [(0, v2), (0, v3)]) (st := []) (by decide +kernel) l_Mo_180 k_Mo_weightOf v_Mo_weightOf a_Mo_weightOf (by decide) (Nat.le_of_ble_eq_true rfl) rfl ov hq (fun r kd1 m9 hr => ?_)
      obtain ⟨x8, rfl, hk, hr⟩ := hr
      subst kd1
      have h := h x8 m9 hr
      show Ev (d + 1) M_Mo_squareOf 0 0 25 [(2, v0), (0, v1), (0, v2), (0, v3), (0, v4), zJ] [(0, x8)] kd m9 (zqI kd q)
      refine EvX.if_le (off := 17) (tgt := 42) (by decide +kernel) (by decide) (fun hc => ?_) (fun hc => ?_)
      · have h := h.1 hc
        refine EvX.blk (pc' := 43) [(.iconst 0, 0, 0)] (by decide +kernel) trivial ?_
        show Ev (d + 1) M_Mo_squareOf 0 0 43 [(2, v0), (0, v1), (0, v2), (0, v3), (0, v4), zJ] [(0, 0)] kd m9 (zqI kd q)
        exact h
      · have h := h.2 hc
        refine EvX.blk (pc' := 32) [(.aload_n 0, 0, 0), (.iload_n 2, 0, 0), (.iload 4, 0, 0)] (by decide +kernel) trivial ?_
        show Ev (d + 1) M_Mo_squareOf 0 0 32 [(2, v0), (0, v1), (0, v2), (0, v3), (0, v4), zJ] [(0, v4), (0, v2), (2, v0)] kd m9 (zqI kd q)
        obtain ⟨ov, h⟩ := h
        obtain ⟨q10, hq, h⟩ := h
        refine EvX.callV (c := 8) (mc := 0) (ms := 0) (as := [(0, v2), (0, v4)]) (st := []) (by decide +kernel) l_Mo_180 k_Mo_weightOf v_Mo_weightOf a_Mo_weightOf (by decide) (Nat.le_of_ble_eq_true rfl) rfl ov hq (fun r kd1 m12 hr => ?_)
        obtain ⟨x11, rfl, hk, hr⟩ := hr
        subst kd1
        have h := h x11 m12 hr
        show Ev (d + 1) M_Mo_squareOf 0 0 35 [(2, v0), (0, v1), (0, v2), (0, v3), (0, v4), zJ] [(0, x11)] kd m12 (zqI kd q)
        refine EvX.if_le (off := 7) (tgt := 42) (by decide +kernel) (by decide) (fun hc => ?_) (fun hc => ?_)
        · have h := h.1 hc
          refine EvX.blk (pc' := 43) [(.iconst 0, 0, 0)] (by decide +kernel) trivial ?_
          show Ev (d + 1) M_Mo_squareOf 0 0 43 [(2, v0), (0, v1), (0, v2), (0, v3), (0, v4), zJ] [(0, 0)] kd m12 (zqI kd q)
          exact h
        · have h := h.2 hc
          refine EvX.blk (pc' := 39) [(.iconst 1, 0, 0)] (by decide +kernel) trivial ?_
          show Ev (d + 1) M_Mo_squareOf 0 0 39 [(2, v0), (0, v1), (0, v2), (0, v3), (0, v4), zJ] [(0, 1)] kd m12 (zqI kd q)
          refine EvX.goto (off := 4) (tgt := 43) (by decide +kernel) (by decide) ?_
          exact h
theorem S_Mo_squareOf {d : Nat} {kd : ZK} {m : ZM} {q : Int → ZM → Prop} {v0 v1 v2 v3 v4 : Int} (h : (zobj kd v0 8 ∧ ∃ q1, CtI d M_Mo_weightOf [(2, v0), (0, v1), (0, v3)] kd m q1 ∧ ∀ x2 m3, q1 x2 m3 → ((x2 ≤ 0 → (Ev (d + 1) M_Mo_squareOf 0 0 43 [(2, v0), (0, v1), (0, v2), (0, v3), (0, v4), zJ] [(0, 0)] kd m3 (zqI kd q))) ∧ (¬ x2 ≤ 0 → (zobj kd v0 8 ∧ ∃ q4, CtI d M_Mo_weightOf [(2, v0), (0, v1), (0, v4)] kd m3 q4 ∧ ∀ x5 m6, q4 x5 m6 → ((x5 ≤ 0 → (Ev (d + 1) M_Mo_squareOf 0 0 43 [(2, v0), (0, v1), (0, v2), (0, v3), (0, v4), zJ] [(0, 0)] kd m6 (zqI kd q))) ∧ (¬ x5 ≤ 0 → (zobj kd v0 8 ∧ ∃ q7, CtI d M_Mo_weightOf [(2, v0), (0, v2), (0, v3)] kd m6 q7 ∧ ∀ x8 m9, q7 x8 m9 → ((x8 ≤ 0 → (Ev (d + 1) M_Mo_squareOf 0 0 43 [(2, v0), (0, v1), (0, v2), (0, v3), (0, v4), zJ] [(0, 0)] kd m9 (zqI kd q))) ∧ (¬ x8 ≤ 0 → (zobj kd v0 8 ∧ ∃ q10, CtI d M_Mo_weightOf [(2, v0), (0, v2), (0, v4)] kd m9 q10 ∧ ∀ x11 m12, q10 x11 m12 → ((x11 ≤ 0 → (Ev (d + 1) M_Mo_squareOf 0 0 43 [(2, v0), (0, v1), (0, v2), (0, v3), (0, v4), zJ] [(0, 0)] kd m12 (zqI kd q))) ∧ (¬ x11 ≤ 0 → (Ev (d + 1) M_Mo_squareOf 0 0 43 [(2, v0), (0, v1), (0, v2), (0, v3), (0, v4), zJ] [(0, 1)] kd m12 (zqI kd q))))))))))))))) : CtI (d + 1) M_Mo_squareOf [(2, v0), (0, v1), (0, v2), (0, v3), (0, v4)] kd m q :=
  Ct.start k_Mo_squareOf (Nat.le_of_ble_eq_true rfl) ⟨1, Or.inr (Or.inl ⟨rfl, rfl⟩)⟩ (T_Mo_squareOf_0 h)
set_option maxRecDepth 20000 in
set_option maxHeartbeats 1000000 in
theorem T_Mo_squareOf_43 {d : Nat} {kd : ZK} {m : ZM} {q : Int → ZM → Prop} {v0 v1 v2 v3 v4 s0 : Int} (h : ((s0 = 0 → q 0 m) ∧ (¬ s0 = 0 → (zobj kd v0 8 ∧ ∃ q1, CtI d M_Mo_signOf [(2, v0), (0, v1), (0, v3)] kd m q1 ∧ ∀ x2 m3, q1 x2 m3 → (zobj kd v0 8 ∧ ∃ q4, CtI d M_Mo_signOf [(2, v0), (0, v1), (0, v4)] kd m3 q4 ∧ ∀ x5 m6, q4 x5 m6 → (zobj kd v0 8 ∧ ∃ q7, CtI d M_Mo_signOf [(2, v0), (0, v2), (0, v3)] kd m6 q7 ∧ ∀ x8 m9, q7 x8 m9 → (zobj kd v0 8 ∧ ∃ q10, CtI d M_Mo_signOf [(2, v0), (0, v2), (0, v4)] kd m9 q10 ∧ ∀ x11 m12, q10 x11 m12 → q (iw ((iw ((iw (x2 * x5)) * x8)) * x11)) m12))))))) : Ev (d + 1) M_Mo_squareOf 0 0 43 [(2, v0), (0, v1), (0, v2), (0, v3), (0, v4), zJ] [(0, s0)] kd m (zqI kd q) := by
  refine EvX.blk (pc' := 47) [(.istore 5, 0, 0), (.iload 5, 0, 0)] (by decide +kernel) trivial ?_
  show Ev (d + 1) M_Mo_squareOf 0 0 47 [(2, v0), (0, v1), (0, v2), (0, v3), (0, v4), (0, s0)] [(0, s0)] kd m (zqI kd q)
  refine EvX.if_eq (off := 35) (tgt := 82) (by decide +kernel) (by decide) (fun hc => ?_) (fun hc => ?_)
  · have h := h.1 hc
    refine EvX.blk (pc' := 83) [(.iconst 0, 0, 0)] (by decide +kernel) trivial ?_
    show Ev (d + 1) M_Mo_squareOf 0 0 83 [(2, v0), (0, v1), (0, v2), (0, v3), (0, v4), (0, s0)] [(0, 0)] kd m (zqI kd q)
    exact EvX.ret (r := (0, 0)) (by decide +kernel) rfl ⟨_, rfl, rfl, h⟩
  · have h := h.2 hc
    refine EvX.blk (pc' := 53) [(.aload_n 0, 0, 0), (.iload_n 1, 0, 0), (.iload_n 3, 0, 0)] (by decide +kernel) trivial ?_
    show Ev (d + 1) M_Mo_squareOf 0 0 53 [(2, v0), (0, v1), (0, v2), (0, v3), (0, v4), (0, s0)] [(0, v3), (0, v1), (2, v0)] kd m (zqI kd q)
    obtain ⟨ov, h⟩ := h
    obtain ⟨q1, hq, h⟩ := h
    refine EvX.callV (c := 8) (mc := 0) (ms := 0) (as := [(0, v1), (0, v3)]) (st := []) (by decide +kernel) l_Mo_329 k_Mo_signOf v_Mo_signOf a_Mo_signOf (by decide) (Nat.le_of_ble_eq_true rfl) rfl ov hq (fun r kd1 m3 hr => ?_)
    obtain ⟨x2, rfl, hk, hr⟩ := hr
    subst kd1
    have h := h x2 m3 hr
    show Ev (d + 1) M_Mo_squareOf 0 0 56 [(2, v0), (0, v1), (0, v2), (0, v3), (0, v4), (0, s0)] [(0, x2)] kd m3 (zqI kd q)
    refine EvX.blk (pc' := 60) [(.aload_n 0, 0, 0), (.iload_n 1, 0, 0), (.iload 4, 0, 0)] (by decide +kernel) trivial ?_
    show Ev (d + 1) M_Mo_squareOf 0 0 60 [(2, v0), (0, v1), (0, v2), (0, v3), (0, v4), (0, s0)] [(0, v4), (0, v1), (2, v0), (0, x2)] kd m3 (zqI kd q)
    obtain ⟨ov, h⟩ := h
    obtain ⟨q4, hq, h⟩ := h
    refine EvX.callV (c := 8) (mc := 0) (ms := 0) (as := [(0, v1), (0, v4)]) (st := [(0, x2)]) (by decide +kernel) l_Mo_329 k_Mo_signOf v_Mo_signOf a_Mo_signOf (by decide) (Nat.le_of_ble_eq_true rfl) rfl ov hq (fun r kd1 m6 hr => ?_)
    obtain ⟨x5, rfl, hk, hr⟩ := hr
    subst kd1
    have h := h x5 m6 hr
    show Ev (d + 1) M_Mo_squareOf 0 0 63 [(2, v0), (0, v1), (0, v2), (0, v3), (0, v4), (0, s0)] [(0, x5), (0, x2)] kd m6 (zqI kd q)
    refine EvX.blk (pc' := 67) [(.imul, 0, 0), (.aload_n 0, 0, 0), (.iload_n 2, 0, 0), (.iload_n 3, 0, 0)] (by decide +kernel) trivial ?_
    show Ev (d + 1) M_Mo_squareOf 0 0 67 [(2, v0), (0, v1), (0, v2), (0, v3), (0, v4), (0, s0)] [(0, v3), (0, v2), (2, v0), (0, iw (x2 * x5))] kd m6 (zqI kd q)
    obtain ⟨ov, h⟩ := h
    obtain ⟨q7, hq, h⟩ := h
    refine EvX.callV (c := 8) (mc := 0) (ms := 0) (as := [(0, v2), (0, v3)]) (st := [(0, iw (x2 * x5))]) (by decide +kernel) l_Mo_329 k_Mo_signOf v_Mo_signOf a_Mo_signOf (by decide) (Nat.le_of_ble_eq_true rfl) rfl ov hq (fun r kd1 m9 hr => ?_)
    obtain ⟨x8, rfl, hk, hr⟩ := hr
    subst kd1
    have h := h x8 m9 hr
    show Ev (d + 1) M_Mo_squareOf 0 0 70 [(2, v0), (0, v1), (0, v2), (0, v3), (0, v4), (0, s0)] [(0, x8), (0, iw (x2 * x5))] kd m9 (zqI kd q)
    refine EvX.blk (pc' := 75) [(.imul, 0, 0), (.aload_n 0, 0, 0), (.iload_n 2, 0, 0), (.iload 4, 0, 0)] (by decide +kernel) trivial ?_
    show Ev (d + 1) M_Mo_squareOf 0 0 75 [(2, v0), (0, v1), (0, v2), (0, v3), (0, v4), (0, s0)] [(0, v4), (0, v2), (2, v0), (0, iw ((iw (x2 * x5)) * x8))] kd m9 (zqI kd q)
    obtain ⟨ov, h⟩ := h
    obtain ⟨q10, hq, h⟩ := h
    refine EvX.callV (c := 8) (mc := 0) (ms := 0) (as := [(0, v2), (0, v4)]) (st := [(0, iw ((iw (x2 * x5)) * x8))]) (by decide +kernel) l_Mo_329 k_Mo_signOf v_Mo_signOf a_Mo_signOf (by decide) (Nat.le_of_ble_eq_true rfl) rfl ov hq (fun r kd1 m12 hr => ?_)
    obtain ⟨x11, rfl, hk, hr⟩ := hr
    subst kd1
    have h := h x11 m12 hr
    show Ev (d + 1) M_Mo_squareOf 0 0 78 [(2, v0), (0, v1), (0, v2), (0, v3), (0, v4), (0, s0)] [(0, x11), (0, iw ((iw (x2 * x5)) * x8))] kd m12 (zqI kd q)
    refine EvX.blk (pc' := 79) [(.imul, 0, 0)] (by decide +kernel) trivial ?_
    show Ev (d + 1) M_Mo_squareOf 0 0 79 [(2, v0), (0, v1), (0, v2), (0, v3), (0, v4), (0, s0)] [(0, iw ((iw ((iw (x2 * x5)) * x8)) * x11))] kd m12 (zqI kd q)
    refine EvX.goto (off := 4) (tgt := 83) (by decide +kernel) (by decide) ?_
    exact EvX.ret (r := (0, iw ((iw ((iw (x2 * x5)) * x8)) * x11))) (by decide +kernel) rfl ⟨_, rfl, rfl, h⟩
set_option maxRecDepth 20000 in
set_option maxHeartbeats 1000000 in
theorem T_Mo_bias_0 {d : Nat} {kd : ZK} {m : ZM} {q : Int → ZM → Prop} {v0 v1 : Int} (h : (zobj kd v0 8 ∧ ∃ q1, CtI d M_Mo_hasGame [(2, v0)] kd m q1 ∧ ∀ x2 m3, q1 x2 m3 → ((x2 = 0 → q (-1) m3) ∧ (¬ x2 = 0 → (∃ q4, CtI d M_Mo_in [(1, v1), (1, 0), (1, 2)] kd m3 q4 ∧ ∀ x5 m6, q4 x5 m6 → ((x5 ≠ 0 → (zobj kd v0 8 ∧ ∃ q7, CtI d M_Mo_isParityGame [(2, v0)] kd m6 q7 ∧ ∀ x8 m9, q7 x8 m9 → ((x8 ≠ 0 → ((v1 ≠ 0 → (Ev (d + 1) M_Mo_bias 0 0 55 [(2, v0), (0, v1), (0, 0), (0, 0), (0, 0), zJ, zJ, zJ, zJ] [] kd m9 (zqI kd q))) ∧ (¬ v1 ≠ 0 → (zobj kd v0 8 ∧ ∃ q10, CtI d M_Mo_mostWorth [(2, v0)] kd m9 q10 ∧ ∀ x11 m12, q10 x11 m12 → (zobj kd v0 8 ∧ ∃ q13, CtI d M_Mo_allWeights [(2, v0)] kd m12 q13 ∧ ∀ x14 m15, q13 x14 m15 → q (iw ((iw (2 * x11)) - x14)) m15))))) ∧ (¬ x8 ≠ 0 → q (-2000) m9)))) ∧ (¬ x5 ≠ 0 → q (-1) m6))))))) : Ev (d + 1) M_Mo_bias 0 0 0 [(2, v0), (0, v1), zJ, zJ, zJ, zJ, zJ, zJ, zJ] [] kd m (zqI kd q) := by
  refine EvX.blk (pc' := 1) [(.aload_n 0, 0, 0)] (by decide +kernel) trivial ?_
  show Ev (d + 1) M_Mo_bias 0 0 1 [(2, v0), (0, v1), zJ, zJ, zJ, zJ, zJ, zJ, zJ] [(2, v0)] kd m (zqI kd q)
  obtain ⟨ov, h⟩ := h
  obtain ⟨q1, hq, h⟩ := h
  refine EvX.callV (c := 8) (mc := 0) (ms := 0) (as := []) (st := []) (by decide +kernel) l_Mo_215 k_Mo_hasGame v_Mo_hasGame a_Mo_hasGame (by decide) (Nat.le_of_ble_eq_true rfl) rfl ov hq (fun r kd1 m3 hr => ?_)
  obtain ⟨x2, rfl, hk, hr⟩ := hr
  subst kd1
  have h := h x2 m3 hr
  show Ev (d + 1) M_Mo_bias 0 0 4 [(2, v0), (0, v1), zJ, zJ, zJ, zJ, zJ, zJ, zJ] [(0, x2)] kd m3 (zqI kd q)
  refine EvX.if_eq (off := 15) (tgt := 19) (by decide +kernel) (by decide) (fun hc => ?_) (fun hc => ?_)
  · have h := h.1 hc
    refine EvX.blk (pc' := 20) [(.iconst (-1), 0, 0)] (by decide +kernel) trivial ?_
    show Ev (d + 1) M_Mo_bias 0 0 20 [(2, v0), (0, v1), zJ, zJ, zJ, zJ, zJ, zJ, zJ] [(0, (-1))] kd m3 (zqI kd q)
    exact EvX.ret (r := (0, (-1))) (by decide +kernel) rfl ⟨_, rfl, rfl, h⟩
  · have h := h.2 hc
    refine EvX.blk (pc' := 13) [(.iload_n 1, 0, 0), (.i2l, 0, 0), (.lconst 0, 0, 0), (.ldc2_w 324, 0, 2)] (by decide +kernel) ⟨z_Mo_324, trivial⟩ ?_
    show Ev (d + 1) M_Mo_bias 0 0 13 [(2, v0), (0, v1), zJ, zJ, zJ, zJ, zJ, zJ, zJ] [(1, 2), (1, 0), (1, v1)] kd m3 (zqI kd q)
    obtain ⟨q4, hq, h⟩ := h
    refine EvX.callS (mc := 0) (ms := 0) (as := [(1, v1), (1, 0), (1, 2)]) (st := []) (by decide +kernel) l_Mo_93 k_Mo_in s_Mo_in a_Mo_in (by decide) (Nat.le_of_ble_eq_true rfl) hq (fun r kd1 m6 hr => ?_)
    obtain ⟨x5, rfl, hk, hr⟩ := hr
    subst kd1
    have h := h x5 m6 hr
    show Ev (d + 1) M_Mo_bias 0 0 16 [(2, v0), (0, v1), zJ, zJ, zJ, zJ, zJ, zJ, zJ] [(0, x5)] kd m6 (zqI kd q)
    refine EvX.if_ne (off := 5) (tgt := 21) (by decide +kernel) (by decide) (fun hc => ?_) (fun hc => ?_)
    · have h := h.1 hc
      refine EvX.blk (pc' := 22) [(.aload_n 0, 0, 0)] (by decide +kernel) trivial ?_
      show Ev (d + 1) M_Mo_bias 0 0 22 [(2, v0), (0, v1), zJ, zJ, zJ, zJ, zJ, zJ, zJ] [(2, v0)] kd m6 (zqI kd q)
      obtain ⟨ov, h⟩ := h
      obtain ⟨q7, hq, h⟩ := h
      refine EvX.callV (c := 8) (mc := 0) (ms := 0) (as := []) (st := []) (by decide +kernel) l_Mo_332 k_Mo_isParityGame v_Mo_isParityGame a_Mo_isParityGame (by decide) (Nat.le_of_ble_eq_true rfl) rfl ov hq (fun r kd1 m9 hr => ?_)
      obtain ⟨x8, rfl, hk, hr⟩ := hr
      subst kd1
      have h := h x8 m9 hr
      show Ev (d + 1) M_Mo_bias 0 0 25 [(2, v0), (0, v1), zJ, zJ, zJ, zJ, zJ, zJ, zJ] [(0, x8)] kd m9 (zqI kd q)
      refine EvX.if_ne (off := 7) (tgt := 32) (by decide +kernel) (by decide) (fun hc => ?_) (fun hc => ?_)
      · have h := h.1 hc
        refine EvX.blk (pc' := 33) [(.iload_n 1, 0, 0)] (by decide +kernel) trivial ?_
        show Ev (d + 1) M_Mo_bias 0 0 33 [(2, v0), (0, v1), zJ, zJ, zJ, zJ, zJ, zJ, zJ] [(0, v1)] kd m9 (zqI kd q)
        refine EvX.if_ne (off := 15) (tgt := 48) (by decide +kernel) (by decide) (fun hc => ?_) (fun hc => ?_)
        · have h := h.1 hc
          refine EvX.blk (pc' := 55) [(.iconst 0, 0, 0), (.istore_n 2, 0, 0), (.iconst 0, 0, 0), (.istore_n 3, 0, 0), (.iconst 0, 0, 0), (.istore 4, 0, 0)] (by decide +kernel) trivial ?_
          show Ev (d + 1) M_Mo_bias 0 0 55 [(2, v0), (0, v1), (0, 0), (0, 0), (0, 0), zJ, zJ, zJ, zJ] [] kd m9 (zqI kd q)
          exact h
        · have h := h.2 hc
          refine EvX.blk (pc' := 38) [(.iconst 2, 0, 0), (.aload_n 0, 0, 0)] (by decide +kernel) trivial ?_
          show Ev (d + 1) M_Mo_bias 0 0 38 [(2, v0), (0, v1), zJ, zJ, zJ, zJ, zJ, zJ, zJ] [(2, v0), (0, 2)] kd m9 (zqI kd q)
          obtain ⟨ov, h⟩ := h
          obtain ⟨q10, hq, h⟩ := h
          refine EvX.callV (c := 8) (mc := 0) (ms := 0) (as := []) (st := [(0, 2)]) (by decide +kernel) l_Mo_281 k_Mo_mostWorth v_Mo_mostWorth a_Mo_mostWorth (by decide) (Nat.le_of_ble_eq_true rfl) rfl ov hq (fun r kd1 m12 hr => ?_)
          obtain ⟨x11, rfl, hk, hr⟩ := hr
          subst kd1
          have h := h x11 m12 hr
          show Ev (d + 1) M_Mo_bias 0 0 41 [(2, v0), (0, v1), zJ, zJ, zJ, zJ, zJ, zJ, zJ] [(0, x11), (0, 2)] kd m12 (zqI kd q)
          refine EvX.blk (pc' := 43) [(.imul, 0, 0), (.aload_n 0, 0, 0)] (by decide +kernel) trivial ?_
          show Ev (d + 1) M_Mo_bias 0 0 43 [(2, v0), (0, v1), zJ, zJ, zJ, zJ, zJ, zJ, zJ] [(2, v0), (0, iw (2 * x11))] kd m12 (zqI kd q)
          obtain ⟨ov, h⟩ := h
          obtain ⟨q13, hq, h⟩ := h
          refine EvX.callV (c := 8) (mc := 0) (ms := 0) (as := []) (st := [(0, iw (2 * x11))]) (by decide +kernel) l_Mo_284 k_Mo_allWeights v_Mo_allWeights a_Mo_allWeights (by decide) (Nat.le_of_ble_eq_true rfl) rfl ov hq (fun r kd1 m15 hr => ?_)
          obtain ⟨x14, rfl, hk, hr⟩ := hr
          subst kd1
          have h := h x14 m15 hr
          show Ev (d + 1) M_Mo_bias 0 0 46 [(2, v0), (0, v1), zJ, zJ, zJ, zJ, zJ, zJ, zJ] [(0, x14), (0, iw (2 * x11))] kd m15 (zqI kd q)
          refine EvX.blk (pc' := 47) [(.isub, 0, 0)] (by decide +kernel) trivial ?_
          show Ev (d + 1) M_Mo_bias 0 0 47 [(2, v0), (0, v1), zJ, zJ, zJ, zJ, zJ, zJ, zJ] [(0, iw ((iw (2 * x11)) - x14))] kd m15 (zqI kd q)
          exact EvX.ret (r := (0, iw ((iw (2 * x11)) - x14))) (by decide +kernel) rfl ⟨_, rfl, rfl, h⟩
      · have h := h.2 hc
        refine EvX.blk (pc' := 31) [(.sipush (-2000), 0, 0)] (by decide +kernel) trivial ?_
        show Ev (d + 1) M_Mo_bias 0 0 31 [(2, v0), (0, v1), zJ, zJ, zJ, zJ, zJ, zJ, zJ] [(0, (-2000))] kd m9 (zqI kd q)
        exact EvX.ret (r := (0, (-2000))) (by decide +kernel) rfl ⟨_, rfl, rfl, h⟩
    · have h := h.2 hc
      refine EvX.blk (pc' := 20) [(.iconst (-1), 0, 0)] (by decide +kernel) trivial ?_
      show Ev (d + 1) M_Mo_bias 0 0 20 [(2, v0), (0, v1), zJ, zJ, zJ, zJ, zJ, zJ, zJ] [(0, (-1))] kd m6 (zqI kd q)
      exact EvX.ret (r := (0, (-1))) (by decide +kernel) rfl ⟨_, rfl, rfl, h⟩
theorem S_Mo_bias {d : Nat} {kd : ZK} {m : ZM} {q : Int → ZM → Prop} {v0 v1 : Int} (h : (zobj kd v0 8 ∧ ∃ q1, CtI d M_Mo_hasGame [(2, v0)] kd m q1 ∧ ∀ x2 m3, q1 x2 m3 → ((x2 = 0 → q (-1) m3) ∧ (¬ x2 = 0 → (∃ q4, CtI d M_Mo_in [(1, v1), (1, 0), (1, 2)] kd m3 q4 ∧ ∀ x5 m6, q4 x5 m6 → ((x5 ≠ 0 → (zobj kd v0 8 ∧ ∃ q7, CtI d M_Mo_isParityGame [(2, v0)] kd m6 q7 ∧ ∀ x8 m9, q7 x8 m9 → ((x8 ≠ 0 → ((v1 ≠ 0 → (Ev (d + 1) M_Mo_bias 0 0 55 [(2, v0), (0, v1), (0, 0), (0, 0), (0, 0), zJ, zJ, zJ, zJ] [] kd m9 (zqI kd q))) ∧ (¬ v1 ≠ 0 → (zobj kd v0 8 ∧ ∃ q10, CtI d M_Mo_mostWorth [(2, v0)] kd m9 q10 ∧ ∀ x11 m12, q10 x11 m12 → (zobj kd v0 8 ∧ ∃ q13, CtI d M_Mo_allWeights [(2, v0)] kd m12 q13 ∧ ∀ x14 m15, q13 x14 m15 → q (iw ((iw (2 * x11)) - x14)) m15))))) ∧ (¬ x8 ≠ 0 → q (-2000) m9)))) ∧ (¬ x5 ≠ 0 → q (-1) m6))))))) : CtI (d + 1) M_Mo_bias [(2, v0), (0, v1)] kd m q :=
  Ct.start k_Mo_bias (Nat.le_of_ble_eq_true rfl) ⟨1, Or.inr (Or.inl ⟨rfl, rfl⟩)⟩ (T_Mo_bias_0 h)
set_option maxRecDepth 20000 in
set_option maxHeartbeats 1000000 in
theorem T_Mo_bias_55 {d : Nat} {kd : ZK} {m : ZM} {q : Int → ZM → Prop} {v0 v1 v2 v3 v4 : Int} (h : (zobj kd v0 8 ∧ ∃ q1, CtI d M_Mo_questions [(2, v0), (0, 0)] kd m q1 ∧ ∀ x2 m3, q1 x2 m3 → ((x2 ≤ v4 → ((v1 ≠ 1 → q v3 m3) ∧ (¬ v1 ≠ 1 → q v2 m3))) ∧ (¬ x2 ≤ v4 → (Ev (d + 1) M_Mo_bias 0 0 71 [(2, v0), (0, v1), (0, v2), (0, v3), (0, v4), (0, iw (v4 + 1)), zJ, zJ, zJ] [] kd m3 (zqI kd q)))))) : Ev (d + 1) M_Mo_bias 0 0 55 [(2, v0), (0, v1), (0, v2), (0, v3), (0, v4), zJ, zJ, zJ, zJ] [] kd m (zqI kd q) := by
  refine EvX.blk (pc' := 59) [(.iload 4, 0, 0), (.aload_n 0, 0, 0), (.iconst 0, 0, 0)] (by decide +kernel) trivial ?_
  show Ev (d + 1) M_Mo_bias 0 0 59 [(2, v0), (0, v1), (0, v2), (0, v3), (0, v4), zJ, zJ, zJ, zJ] [(0, 0), (2, v0), (0, v4)] kd m (zqI kd q)
  obtain ⟨ov, h⟩ := h
  obtain ⟨q1, hq, h⟩ := h
  refine EvX.callV (c := 8) (mc := 0) (ms := 0) (as := [(0, 0)]) (st := [(0, v4)]) (by decide +kernel) l_Mo_163 k_Mo_questions v_Mo_questions a_Mo_questions (by decide) (Nat.le_of_ble_eq_true rfl) rfl ov hq (fun r kd1 m3 hr => ?_)
  obtain ⟨x2, rfl, hk, hr⟩ := hr
  subst kd1
  have h := h x2 m3 hr
  show Ev (d + 1) M_Mo_bias 0 0 62 [(2, v0), (0, v1), (0, v2), (0, v3), (0, v4), zJ, zJ, zJ, zJ] [(0, x2), (0, v4)] kd m3 (zqI kd q)
  refine EvX.icmp_ge (off := 119) (tgt := 181) (by decide +kernel) (by decide) (fun hc => ?_) (fun hc => ?_)
  · have h := h.1 hc
    refine EvX.blk (pc' := 183) [(.iload_n 1, 0, 0), (.iconst 1, 0, 0)] (by decide +kernel) trivial ?_
    show Ev (d + 1) M_Mo_bias 0 0 183 [(2, v0), (0, v1), (0, v2), (0, v3), (0, v4), zJ, zJ, zJ, zJ] [(0, 1), (0, v1)] kd m3 (zqI kd q)
    refine EvX.icmp_ne (off := 7) (tgt := 190) (by decide +kernel) (by decide) (fun hc => ?_) (fun hc => ?_)
    · have h := h.1 hc
      refine EvX.blk (pc' := 191) [(.iload_n 3, 0, 0)] (by decide +kernel) trivial ?_
      show Ev (d + 1) M_Mo_bias 0 0 191 [(2, v0), (0, v1), (0, v2), (0, v3), (0, v4), zJ, zJ, zJ, zJ] [(0, v3)] kd m3 (zqI kd q)
      exact EvX.ret (r := (0, v3)) (by decide +kernel) rfl ⟨_, rfl, rfl, h⟩
    · have h := h.2 hc
      refine EvX.blk (pc' := 187) [(.iload_n 2, 0, 0)] (by decide +kernel) trivial ?_
      show Ev (d + 1) M_Mo_bias 0 0 187 [(2, v0), (0, v1), (0, v2), (0, v3), (0, v4), zJ, zJ, zJ, zJ] [(0, v2)] kd m3 (zqI kd q)
      refine EvX.goto (off := 4) (tgt := 191) (by decide +kernel) (by decide) ?_
      exact EvX.ret (r := (0, v2)) (by decide +kernel) rfl ⟨_, rfl, rfl, h⟩
  · have h := h.2 hc
    refine EvX.blk (pc' := 71) [(.iload 4, 0, 0), (.iconst 1, 0, 0), (.iadd, 0, 0), (.istore 5, 0, 0)] (by decide +kernel) trivial ?_
    show Ev (d + 1) M_Mo_bias 0 0 71 [(2, v0), (0, v1), (0, v2), (0, v3), (0, v4), (0, iw (v4 + 1)), zJ, zJ, zJ] [] kd m3 (zqI kd q)
    exact h
set_option maxRecDepth 20000 in
set_option maxHeartbeats 1000000 in
theorem T_Mo_bias_71 {d : Nat} {kd : ZK} {m : ZM} {q : Int → ZM → Prop} {v0 v1 v2 v3 v4 v5 : Int} (h : (zobj kd v0 8 ∧ ∃ q1, CtI d M_Mo_questions [(2, v0), (0, 0)] kd m q1 ∧ ∀ x2 m3, q1 x2 m3 → ((x2 ≤ v5 → (Ev (d + 1) M_Mo_bias 0 0 55 [(2, v0), (0, v1), (0, v2), (0, v3), (0, iw (v4 + 1)), zJ, zJ, zJ, zJ] [] kd m3 (zqI kd q))) ∧ (¬ x2 ≤ v5 → (Ev (d + 1) M_Mo_bias 0 0 84 [(2, v0), (0, v1), (0, v2), (0, v3), (0, v4), (0, v5), (0, 0), zJ, zJ] [] kd m3 (zqI kd q)))))) : Ev (d + 1) M_Mo_bias 0 0 71 [(2, v0), (0, v1), (0, v2), (0, v3), (0, v4), (0, v5), zJ, zJ, zJ] [] kd m (zqI kd q) := by
  refine EvX.blk (pc' := 75) [(.iload 5, 0, 0), (.aload_n 0, 0, 0), (.iconst 0, 0, 0)] (by decide +kernel) trivial ?_
  show Ev (d + 1) M_Mo_bias 0 0 75 [(2, v0), (0, v1), (0, v2), (0, v3), (0, v4), (0, v5), zJ, zJ, zJ] [(0, 0), (2, v0), (0, v5)] kd m (zqI kd q)
  obtain ⟨ov, h⟩ := h
  obtain ⟨q1, hq, h⟩ := h
  refine EvX.callV (c := 8) (mc := 0) (ms := 0) (as := [(0, 0)]) (st := [(0, v5)]) (by decide +kernel) l_Mo_163 k_Mo_questions v_Mo_questions a_Mo_questions (by decide) (Nat.le_of_ble_eq_true rfl) rfl ov hq (fun r kd1 m3 hr => ?_)
  obtain ⟨x2, rfl, hk, hr⟩ := hr
  subst kd1
  have h := h x2 m3 hr
  show Ev (d + 1) M_Mo_bias 0 0 78 [(2, v0), (0, v1), (0, v2), (0, v3), (0, v4), (0, v5), zJ, zJ, zJ] [(0, x2), (0, v5)] kd m3 (zqI kd q)
  refine EvX.icmp_ge (off := 97) (tgt := 175) (by decide +kernel) (by decide) (fun hc => ?_) (fun hc => ?_)
  · have h := h.1 hc
    refine EvX.blk (pc' := 178) [(.iinc 4 1, 0, 0)] (by decide +kernel) trivial ?_
    show Ev (d + 1) M_Mo_bias 0 0 178 [(2, v0), (0, v1), (0, v2), (0, v3), (0, iw (v4 + 1)), (0, v5), zJ, zJ, zJ] [] kd m3 (zqI kd q)
    refine EvX.goto (off := (-123)) (tgt := 55) (by decide +kernel) (by decide) ?_
    exact EvX.weak (ls2 := [(2, v0), (0, v1), (0, v2), (0, v3), (0, iw (v4 + 1)), zJ, zJ, zJ, zJ]) (zwk_of ⟨Or.inr rfl, Or.inr rfl, Or.inr rfl, Or.inr rfl, Or.inr rfl, Or.inl rfl, Or.inl rfl, Or.inl rfl, Or.inl rfl, trivial⟩) h
  · have h := h.2 hc
    refine EvX.blk (pc' := 84) [(.iconst 0, 0, 0), (.istore 6, 0, 0)] (by decide +kernel) trivial ?_
    show Ev (d + 1) M_Mo_bias 0 0 84 [(2, v0), (0, v1), (0, v2), (0, v3), (0, v4), (0, v5), (0, 0), zJ, zJ] [] kd m3 (zqI kd q)
    exact h
set_option maxRecDepth 20000 in
set_option maxHeartbeats 1000000 in
theorem T_Mo_bias_84 {d : Nat} {kd : ZK} {m : ZM} {q : Int → ZM → Prop} {v0 v1 v2 v3 v4 v5 v6 : Int} (h : (zobj kd v0 8 ∧ ∃ q1, CtI d M_Mo_questions [(2, v0), (0, 1)] kd m q1 ∧ ∀ x2 m3, q1 x2 m3 → ((x2 ≤ v6 → (Ev (d + 1) M_Mo_bias 0 0 71 [(2, v0), (0, v1), (0, v2), (0, v3), (0, v4), (0, iw (v5 + 1)), zJ, zJ, zJ] [] kd m3 (zqI kd q))) ∧ (¬ x2 ≤ v6 → (Ev (d + 1) M_Mo_bias 0 0 100 [(2, v0), (0, v1), (0, v2), (0, v3), (0, v4), (0, v5), (0, v6), (0, iw (v6 + 1)), zJ] [] kd m3 (zqI kd q)))))) : Ev (d + 1) M_Mo_bias 0 0 84 [(2, v0), (0, v1), (0, v2), (0, v3), (0, v4), (0, v5), (0, v6), zJ, zJ] [] kd m (zqI kd q) := by
  refine EvX.blk (pc' := 88) [(.iload 6, 0, 0), (.aload_n 0, 0, 0), (.iconst 1, 0, 0)] (by decide +kernel) trivial ?_
  show Ev (d + 1) M_Mo_bias 0 0 88 [(2, v0), (0, v1), (0, v2), (0, v3), (0, v4), (0, v5), (0, v6), zJ, zJ] [(0, 1), (2, v0), (0, v6)] kd m (zqI kd q)
  obtain ⟨ov, h⟩ := h
  obtain ⟨q1, hq, h⟩ := h
  refine EvX.callV (c := 8) (mc := 0) (ms := 0) (as := [(0, 1)]) (st := [(0, v6)]) (by decide +kernel) l_Mo_163 k_Mo_questions v_Mo_questions a_Mo_questions (by decide) (Nat.le_of_ble_eq_true rfl) rfl ov hq (fun r kd1 m3 hr => ?_)
  obtain ⟨x2, rfl, hk, hr⟩ := hr
  subst kd1
  have h := h x2 m3 hr
  show Ev (d + 1) M_Mo_bias 0 0 91 [(2, v0), (0, v1), (0, v2), (0, v3), (0, v4), (0, v5), (0, v6), zJ, zJ] [(0, x2), (0, v6)] kd m3 (zqI kd q)
  refine EvX.icmp_ge (off := 78) (tgt := 169) (by decide +kernel) (by decide) (fun hc => ?_) (fun hc => ?_)
  · have h := h.1 hc
    refine EvX.blk (pc' := 172) [(.iinc 5 1, 0, 0)] (by decide +kernel) trivial ?_
    show Ev (d + 1) M_Mo_bias 0 0 172 [(2, v0), (0, v1), (0, v2), (0, v3), (0, v4), (0, iw (v5 + 1)), (0, v6), zJ, zJ] [] kd m3 (zqI kd q)
    refine EvX.goto (off := (-101)) (tgt := 71) (by decide +kernel) (by decide) ?_
    exact EvX.weak (ls2 := [(2, v0), (0, v1), (0, v2), (0, v3), (0, v4), (0, iw (v5 + 1)), zJ, zJ, zJ]) (zwk_of ⟨Or.inr rfl, Or.inr rfl, Or.inr rfl, Or.inr rfl, Or.inr rfl, Or.inr rfl, Or.inl rfl, Or.inl rfl, Or.inl rfl, trivial⟩) h
  · have h := h.2 hc
    refine EvX.blk (pc' := 100) [(.iload 6, 0, 0), (.iconst 1, 0, 0), (.iadd, 0, 0), (.istore 7, 0, 0)] (by decide +kernel) trivial ?_
    show Ev (d + 1) M_Mo_bias 0 0 100 [(2, v0), (0, v1), (0, v2), (0, v3), (0, v4), (0, v5), (0, v6), (0, iw (v6 + 1)), zJ] [] kd m3 (zqI kd q)
    exact h
set_option maxRecDepth 20000 in
set_option maxHeartbeats 1000000 in
theorem T_Mo_bias_100 {d : Nat} {kd : ZK} {m : ZM} {q : Int → ZM → Prop} {v0 v1 v2 v3 v4 v5 v6 v7 : Int} (h : (zobj kd v0 8 ∧ ∃ q1, CtI d M_Mo_questions [(2, v0), (0, 1)] kd m q1 ∧ ∀ x2 m3, q1 x2 m3 → ((x2 ≤ v7 → (Ev (d + 1) M_Mo_bias 0 0 84 [(2, v0), (0, v1), (0, v2), (0, v3), (0, v4), (0, v5), (0, iw (v6 + 1)), zJ, zJ] [] kd m3 (zqI kd q))) ∧ (¬ x2 ≤ v7 → (zobj kd v0 8 ∧ ∃ q4, CtI d M_Mo_squareOf [(2, v0), (0, v4), (0, v5), (0, v6), (0, v7)] kd m3 q4 ∧ ∀ x5 m6, q4 x5 m6 → ((x5 = 0 → (Ev (d + 1) M_Mo_bias 0 0 135 [(2, v0), (0, v1), zJ, (0, v3), (0, v4), (0, v5), (0, v6), (0, v7), (0, x5)] [(0, 0), (0, v2)] kd m6 (zqI kd q))) ∧ (¬ x5 = 0 → (Ev (d + 1) M_Mo_bias 0 0 135 [(2, v0), (0, v1), zJ, (0, v3), (0, v4), (0, v5), (0, v6), (0, v7), (0, x5)] [(0, 1), (0, v2)] kd m6 (zqI kd q))))))))) : Ev (d + 1) M_Mo_bias 0 0 100 [(2, v0), (0, v1), (0, v2), (0, v3), (0, v4), (0, v5), (0, v6), (0, v7), zJ] [] kd m (zqI kd q) := by
  refine EvX.blk (pc' := 104) [(.iload 7, 0, 0), (.aload_n 0, 0, 0), (.iconst 1, 0, 0)] (by decide +kernel) trivial ?_
  show Ev (d + 1) M_Mo_bias 0 0 104 [(2, v0), (0, v1), (0, v2), (0, v3), (0, v4), (0, v5), (0, v6), (0, v7), zJ] [(0, 1), (2, v0), (0, v7)] kd m (zqI kd q)
  obtain ⟨ov, h⟩ := h
  obtain ⟨q1, hq, h⟩ := h
  refine EvX.callV (c := 8) (mc := 0) (ms := 0) (as := [(0, 1)]) (st := [(0, v7)]) (by decide +kernel) l_Mo_163 k_Mo_questions v_Mo_questions a_Mo_questions (by decide) (Nat.le_of_ble_eq_true rfl) rfl ov hq (fun r kd1 m3 hr => ?_)
  obtain ⟨x2, rfl, hk, hr⟩ := hr
  subst kd1
  have h := h x2 m3 hr
  show Ev (d + 1) M_Mo_bias 0 0 107 [(2, v0), (0, v1), (0, v2), (0, v3), (0, v4), (0, v5), (0, v6), (0, v7), zJ] [(0, x2), (0, v7)] kd m3 (zqI kd q)
  refine EvX.icmp_ge (off := 56) (tgt := 163) (by decide +kernel) (by decide) (fun hc => ?_) (fun hc => ?_)
  · have h := h.1 hc
    refine EvX.blk (pc' := 166) [(.iinc 6 1, 0, 0)] (by decide +kernel) trivial ?_
    show Ev (d + 1) M_Mo_bias 0 0 166 [(2, v0), (0, v1), (0, v2), (0, v3), (0, v4), (0, v5), (0, iw (v6 + 1)), (0, v7), zJ] [] kd m3 (zqI kd q)
    refine EvX.goto (off := (-82)) (tgt := 84) (by decide +kernel) (by decide) ?_
    exact EvX.weak (ls2 := [(2, v0), (0, v1), (0, v2), (0, v3), (0, v4), (0, v5), (0, iw (v6 + 1)), zJ, zJ]) (zwk_of ⟨Or.inr rfl, Or.inr rfl, Or.inr rfl, Or.inr rfl, Or.inr rfl, Or.inr rfl, Or.inr rfl, Or.inl rfl, Or.inl rfl, trivial⟩) h
  · have h := h.2 hc
    refine EvX.blk (pc' := 119) [(.aload_n 0, 0, 0), (.iload 4, 0, 0), (.iload 5, 0, 0), (.iload 6, 0, 0), (.iload 7, 0, 0)] (by decide +kernel) trivial ?_
    show Ev (d + 1) M_Mo_bias 0 0 119 [(2, v0), (0, v1), (0, v2), (0, v3), (0, v4), (0, v5), (0, v6), (0, v7), zJ] [(0, v7), (0, v6), (0, v5), (0, v4), (2, v0)] kd m3 (zqI kd q)
    obtain ⟨ov, h⟩ := h
    obtain ⟨q4, hq, h⟩ := h
    refine EvX.callV (c := 8) (mc := 0) (ms := 0) (as := [(0, v4), (0, v5), (0, v6), (0, v7)]) (st := []) (by decide +kernel) l_Mo_335 k_Mo_squareOf v_Mo_squareOf a_Mo_squareOf (by decide) (Nat.le_of_ble_eq_true rfl) rfl ov hq (fun r kd1 m6 hr => ?_)
    obtain ⟨x5, rfl, hk, hr⟩ := hr
    subst kd1
    have h := h x5 m6 hr
    show Ev (d + 1) M_Mo_bias 0 0 122 [(2, v0), (0, v1), (0, v2), (0, v3), (0, v4), (0, v5), (0, v6), (0, v7), zJ] [(0, x5)] kd m6 (zqI kd q)
    refine EvX.blk (pc' := 127) [(.istore 8, 0, 0), (.iload_n 2, 0, 0), (.iload 8, 0, 0)] (by decide +kernel) trivial ?_
    show Ev (d + 1) M_Mo_bias 0 0 127 [(2, v0), (0, v1), (0, v2), (0, v3), (0, v4), (0, v5), (0, v6), (0, v7), (0, x5)] [(0, x5), (0, v2)] kd m6 (zqI kd q)
    refine EvX.if_eq (off := 7) (tgt := 134) (by decide +kernel) (by decide) (fun hc => ?_) (fun hc => ?_)
    · have h := h.1 hc
      refine EvX.blk (pc' := 135) [(.iconst 0, 0, 0)] (by decide +kernel) trivial ?_
      show Ev (d + 1) M_Mo_bias 0 0 135 [(2, v0), (0, v1), (0, v2), (0, v3), (0, v4), (0, v5), (0, v6), (0, v7), (0, x5)] [(0, 0), (0, v2)] kd m6 (zqI kd q)
      exact EvX.weak (ls2 := [(2, v0), (0, v1), zJ, (0, v3), (0, v4), (0, v5), (0, v6), (0, v7), (0, x5)]) (zwk_of ⟨Or.inr rfl, Or.inr rfl, Or.inl rfl, Or.inr rfl, Or.inr rfl, Or.inr rfl, Or.inr rfl, Or.inr rfl, Or.inr rfl, trivial⟩) h
    · have h := h.2 hc
      refine EvX.blk (pc' := 131) [(.iconst 1, 0, 0)] (by decide +kernel) trivial ?_
      show Ev (d + 1) M_Mo_bias 0 0 131 [(2, v0), (0, v1), (0, v2), (0, v3), (0, v4), (0, v5), (0, v6), (0, v7), (0, x5)] [(0, 1), (0, v2)] kd m6 (zqI kd q)
      refine EvX.goto (off := 4) (tgt := 135) (by decide +kernel) (by decide) ?_
      exact EvX.weak (ls2 := [(2, v0), (0, v1), zJ, (0, v3), (0, v4), (0, v5), (0, v6), (0, v7), (0, x5)]) (zwk_of ⟨Or.inr rfl, Or.inr rfl, Or.inl rfl, Or.inr rfl, Or.inr rfl, Or.inr rfl, Or.inr rfl, Or.inr rfl, Or.inr rfl, trivial⟩) h
set_option maxRecDepth 20000 in
set_option maxHeartbeats 1000000 in
theorem T_Mo_bias_135 {d : Nat} {kd : ZK} {m : ZM} {q : Int → ZM → Prop} {v0 v1 v3 v4 v5 v6 v7 v8 s0 s1 : Int} (h : (∃ q1, CtI d M_Mo_truth [(0, s1)] kd m q1 ∧ ∀ x2 m3, q1 x2 m3 → ((v8 ≠ (-1) → (∃ q4, CtI d M_Mo_truth [(0, 0)] kd m3 q4 ∧ ∀ x5 m6, q4 x5 m6 → (Ev (d + 1) M_Mo_bias 0 0 100 [(2, v0), (0, v1), (0, iw (s0 + x2)), (0, iw (v3 + x5)), (0, v4), (0, v5), (0, v6), (0, iw (v7 + 1)), zJ] [] kd m6 (zqI kd q)))) ∧ (¬ v8 ≠ (-1) → (∃ q7, CtI d M_Mo_truth [(0, 1)] kd m3 q7 ∧ ∀ x8 m9, q7 x8 m9 → (Ev (d + 1) M_Mo_bias 0 0 100 [(2, v0), (0, v1), (0, iw (s0 + x2)), (0, iw (v3 + x8)), (0, v4), (0, v5), (0, v6), (0, iw (v7 + 1)), zJ] [] kd m9 (zqI kd q))))))) : Ev (d + 1) M_Mo_bias 0 0 135 [(2, v0), (0, v1), zJ, (0, v3), (0, v4), (0, v5), (0, v6), (0, v7), (0, v8)] [(0, s1), (0, s0)] kd m (zqI kd q) := by
  obtain ⟨q1, hq, h⟩ := h
  refine EvX.callS (mc := 0) (ms := 0) (as := [(0, s1)]) (st := [(0, s0)]) (by decide +kernel) l_Mo_204 k_Mo_truth s_Mo_truth a_Mo_truth (by decide) (Nat.le_of_ble_eq_true rfl) hq (fun r kd1 m3 hr => ?_)
  obtain ⟨x2, rfl, hk, hr⟩ := hr
  subst kd1
  have h := h x2 m3 hr
  show Ev (d + 1) M_Mo_bias 0 0 138 [(2, v0), (0, v1), zJ, (0, v3), (0, v4), (0, v5), (0, v6), (0, v7), (0, v8)] [(0, x2), (0, s0)] kd m3 (zqI kd q)
  refine EvX.blk (pc' := 144) [(.iadd, 0, 0), (.istore_n 2, 0, 0), (.iload_n 3, 0, 0), (.iload 8, 0, 0), (.iconst (-1), 0, 0)] (by decide +kernel) trivial ?_
  show Ev (d + 1) M_Mo_bias 0 0 144 [(2, v0), (0, v1), (0, iw (s0 + x2)), (0, v3), (0, v4), (0, v5), (0, v6), (0, v7), (0, v8)] [(0, (-1)), (0, v8), (0, v3)] kd m3 (zqI kd q)
  refine EvX.icmp_ne (off := 7) (tgt := 151) (by decide +kernel) (by decide) (fun hc => ?_) (fun hc => ?_)
  · have h := h.1 hc
    refine EvX.blk (pc' := 152) [(.iconst 0, 0, 0)] (by decide +kernel) trivial ?_
    show Ev (d + 1) M_Mo_bias 0 0 152 [(2, v0), (0, v1), (0, iw (s0 + x2)), (0, v3), (0, v4), (0, v5), (0, v6), (0, v7), (0, v8)] [(0, 0), (0, v3)] kd m3 (zqI kd q)
    obtain ⟨q4, hq, h⟩ := h
    refine EvX.callS (mc := 0) (ms := 0) (as := [(0, 0)]) (st := [(0, v3)]) (by decide +kernel) l_Mo_204 k_Mo_truth s_Mo_truth a_Mo_truth (by decide) (Nat.le_of_ble_eq_true rfl) hq (fun r kd1 m6 hr => ?_)
    obtain ⟨x5, rfl, hk, hr⟩ := hr
    subst kd1
    have h := h x5 m6 hr
    show Ev (d + 1) M_Mo_bias 0 0 155 [(2, v0), (0, v1), (0, iw (s0 + x2)), (0, v3), (0, v4), (0, v5), (0, v6), (0, v7), (0, v8)] [(0, x5), (0, v3)] kd m6 (zqI kd q)
    refine EvX.blk (pc' := 160) [(.iadd, 0, 0), (.istore_n 3, 0, 0), (.iinc 7 1, 0, 0)] (by decide +kernel) trivial ?_
    show Ev (d + 1) M_Mo_bias 0 0 160 [(2, v0), (0, v1), (0, iw (s0 + x2)), (0, iw (v3 + x5)), (0, v4), (0, v5), (0, v6), (0, iw (v7 + 1)), (0, v8)] [] kd m6 (zqI kd q)
    refine EvX.goto (off := (-60)) (tgt := 100) (by decide +kernel) (by decide) ?_
    exact EvX.weak (ls2 := [(2, v0), (0, v1), (0, iw (s0 + x2)), (0, iw (v3 + x5)), (0, v4), (0, v5), (0, v6), (0, iw (v7 + 1)), zJ]) (zwk_of ⟨Or.inr rfl, Or.inr rfl, Or.inr rfl, Or.inr rfl, Or.inr rfl, Or.inr rfl, Or.inr rfl, Or.inr rfl, Or.inl rfl, trivial⟩) h
  · have h := h.2 hc
    refine EvX.blk (pc' := 148) [(.iconst 1, 0, 0)] (by decide +kernel) trivial ?_
    show Ev (d + 1) M_Mo_bias 0 0 148 [(2, v0), (0, v1), (0, iw (s0 + x2)), (0, v3), (0, v4), (0, v5), (0, v6), (0, v7), (0, v8)] [(0, 1), (0, v3)] kd m3 (zqI kd q)
    refine EvX.goto (off := 4) (tgt := 152) (by decide +kernel) (by decide) ?_
    obtain ⟨q7, hq, h⟩ := h
    refine EvX.callS (mc := 0) (ms := 0) (as := [(0, 1)]) (st := [(0, v3)]) (by decide +kernel) l_Mo_204 k_Mo_truth s_Mo_truth a_Mo_truth (by decide) (Nat.le_of_ble_eq_true rfl) hq (fun r kd1 m9 hr => ?_)
    obtain ⟨x8, rfl, hk, hr⟩ := hr
    subst kd1
    have h := h x8 m9 hr
    show Ev (d + 1) M_Mo_bias 0 0 155 [(2, v0), (0, v1), (0, iw (s0 + x2)), (0, v3), (0, v4), (0, v5), (0, v6), (0, v7), (0, v8)] [(0, x8), (0, v3)] kd m9 (zqI kd q)
    refine EvX.blk (pc' := 160) [(.iadd, 0, 0), (.istore_n 3, 0, 0), (.iinc 7 1, 0, 0)] (by decide +kernel) trivial ?_
    show Ev (d + 1) M_Mo_bias 0 0 160 [(2, v0), (0, v1), (0, iw (s0 + x2)), (0, iw (v3 + x8)), (0, v4), (0, v5), (0, v6), (0, iw (v7 + 1)), (0, v8)] [] kd m9 (zqI kd q)
    refine EvX.goto (off := (-60)) (tgt := 100) (by decide +kernel) (by decide) ?_
    exact EvX.weak (ls2 := [(2, v0), (0, v1), (0, iw (s0 + x2)), (0, iw (v3 + x8)), (0, v4), (0, v5), (0, v6), (0, iw (v7 + 1)), zJ]) (zwk_of ⟨Or.inr rfl, Or.inr rfl, Or.inr rfl, Or.inr rfl, Or.inr rfl, Or.inr rfl, Or.inr rfl, Or.inr rfl, Or.inl rfl, trivial⟩) h
set_option maxRecDepth 20000 in
set_option maxHeartbeats 1000000 in
theorem T_Mo_wonAt_0 {d : Nat} {kd : ZK} {m : ZM} {q : Int → ZM → Prop} {v0 v1 v2 v3 v4 v5 : Int} (h : (zobj kd v0 8 ∧ ∃ q1, CtI d M_Mo_questions [(2, v0), (0, 0)] kd m q1 ∧ ∀ x2 m3, q1 x2 m3 → (x2 ≠ 0 ∧ (zobj kd v0 8 ∧ ∃ q4, CtI d M_Mo_questions [(2, v0), (0, 0)] kd m3 q4 ∧ ∀ x5 m6, q4 x5 m6 → (x5 ≠ 0 ∧ (zobj kd v0 8 ∧ ∃ q7, CtI d M_Mo_questions [(2, v0), (0, 1)] kd m6 q7 ∧ ∀ x8 m9, q7 x8 m9 → (x8 ≠ 0 ∧ (zobj kd v0 8 ∧ ∃ q10, CtI d M_Mo_questions [(2, v0), (0, 1)] kd m9 q10 ∧ ∀ x11 m12, q10 x11 m12 → (x11 ≠ 0 ∧ (zobj kd v0 8 ∧ ∃ q13, CtI d M_Mo_answers [(2, v0), (0, 0)] kd m12 q13 ∧ ∀ x14 m15, q13 x14 m15 → (x14 ≠ 0 ∧ (zobj kd v0 8 ∧ ∃ q16, CtI d M_Mo_answers [(2, v0), (0, 1)] kd m15 q16 ∧ ∀ x17 m18, q16 x17 m18 → (x17 ≠ 0 ∧ (zobj kd v0 8 ∧ ∃ q19, CtI d M_Mo_isWin [(2, v0), (0, iw (Int.tdiv v1 x2)), (0, iw (Int.tdiv v3 x8)), (0, iw (Int.tdiv v2 x14)), (0, iw (Int.tdiv v4 x17))] kd m18 q19 ∧ ∀ x20 m21, q19 x20 m21 → (zobj kd v0 8 ∧ ∃ q22, CtI d M_Mo_answers [(2, v0), (0, 0)] kd m21 q22 ∧ ∀ x23 m24, q22 x23 m24 → (x23 ≠ 0 ∧ (zobj kd v0 8 ∧ ∃ q25, CtI d M_Mo_answers [(2, v0), (0, 1)] kd m24 q25 ∧ ∀ x26 m27, q25 x26 m27 → (x26 ≠ 0 ∧ (zobj kd v0 8 ∧ ∃ q28, CtI d M_Mo_isWin [(2, v0), (0, Int.tmod v1 x5), (0, Int.tmod v3 x11), (0, Int.tmod v2 x23), (0, Int.tmod v4 x26)] kd m27 q28 ∧ ∀ x29 m30, q28 x29 m30 → ((v5 = 0 → ((x20 ≠ 0 → (Ev (d + 1) M_Mo_wonAt 0 0 135 [(2, v0), zJ, zJ, zJ, zJ, zJ, (0, iw (Int.tdiv v1 x2)), (0, Int.tmod v1 x5), (0, iw (Int.tdiv v3 x8)), (0, Int.tmod v3 x11), zJ, zJ] [] kd m30 (zqI kd q))) ∧ (¬ x20 ≠ 0 → ((x29 = 0 → q 0 m30) ∧ (¬ x29 = 0 → (Ev (d + 1) M_Mo_wonAt 0 0 135 [(2, v0), zJ, zJ, zJ, zJ, zJ, (0, iw (Int.tdiv v1 x2)), (0, Int.tmod v1 x5), (0, iw (Int.tdiv v3 x8)), (0, Int.tmod v3 x11), zJ, zJ] [] kd m30 (zqI kd q))))))) ∧ (¬ v5 = 0 → ((x20 = 0 → q 0 m30) ∧ (¬ x20 = 0 → ((x29 = 0 → q 0 m30) ∧ (¬ x29 = 0 → (zobj kd v0 8 ∧ ∃ q31, CtI d M_Mo_weightOf [(2, v0), (0, iw (Int.tdiv v1 x2)), (0, iw (Int.tdiv v3 x8))] kd m30 q31 ∧ ∀ x32 m33, q31 x32 m33 → (zobj kd v0 8 ∧ ∃ q34, CtI d M_Mo_weightOf [(2, v0), (0, Int.tmod v1 x5), (0, Int.tmod v3 x11)] kd m33 q34 ∧ ∀ x35 m36, q34 x35 m36 → q (iw (x32 * x35)) m36))))))))))))))))))))))))))) : Ev (d + 1) M_Mo_wonAt 0 0 0 [(2, v0), (0, v1), (0, v2), (0, v3), (0, v4), (0, v5), zJ, zJ, zJ, zJ, zJ, zJ] [] kd m (zqI kd q) := by
  refine EvX.blk (pc' := 3) [(.iload_n 1, 0, 0), (.aload_n 0, 0, 0), (.iconst 0, 0, 0)] (by decide +kernel) trivial ?_
  show Ev (d + 1) M_Mo_wonAt 0 0 3 [(2, v0), (0, v1), (0, v2), (0, v3), (0, v4), (0, v5), zJ, zJ, zJ, zJ, zJ, zJ] [(0, 0), (2, v0), (0, v1)] kd m (zqI kd q)
  obtain ⟨ov, h⟩ := h
  obtain ⟨q1, hq, h⟩ := h
  refine EvX.callV (c := 8) (mc := 0) (ms := 0) (as := [(0, 0)]) (st := [(0, v1)]) (by decide +kernel) l_Mo_163 k_Mo_questions v_Mo_questions a_Mo_questions (by decide) (Nat.le_of_ble_eq_true rfl) rfl ov hq (fun r kd1 m3 hr => ?_)
  obtain ⟨x2, rfl, hk, hr⟩ := hr
  subst kd1
  have h := h x2 m3 hr
  show Ev (d + 1) M_Mo_wonAt 0 0 6 [(2, v0), (0, v1), (0, v2), (0, v3), (0, v4), (0, v5), zJ, zJ, zJ, zJ, zJ, zJ] [(0, x2), (0, v1)] kd m3 (zqI kd q)
  obtain ⟨o1, h⟩ := h
  refine EvX.blk (pc' := 12) [(.idiv, 0, 0), (.istore 6, 0, 0), (.iload_n 1, 0, 0), (.aload_n 0, 0, 0), (.iconst 0, 0, 0)] (by decide +kernel) trivial ⟨o1, ?_⟩
  show Ev (d + 1) M_Mo_wonAt 0 0 12 [(2, v0), (0, v1), (0, v2), (0, v3), (0, v4), (0, v5), (0, iw (Int.tdiv v1 x2)), zJ, zJ, zJ, zJ, zJ] [(0, 0), (2, v0), (0, v1)] kd m3 (zqI kd q)
  obtain ⟨ov, h⟩ := h
  obtain ⟨q4, hq, h⟩ := h
  refine EvX.callV (c := 8) (mc := 0) (ms := 0) (as := [(0, 0)]) (st := [(0, v1)]) (by decide +kernel) l_Mo_163 k_Mo_questions v_Mo_questions a_Mo_questions (by decide) (Nat.le_of_ble_eq_true rfl) rfl ov hq (fun r kd1 m6 hr => ?_)
  obtain ⟨x5, rfl, hk, hr⟩ := hr
  subst kd1
  have h := h x5 m6 hr
  show Ev (d + 1) M_Mo_wonAt 0 0 15 [(2, v0), (0, v1), (0, v2), (0, v3), (0, v4), (0, v5), (0, iw (Int.tdiv v1 x2)), zJ, zJ, zJ, zJ, zJ] [(0, x5), (0, v1)] kd m6 (zqI kd q)
  obtain ⟨o1, h⟩ := h
  refine EvX.blk (pc' := 21) [(.irem, 0, 0), (.istore 7, 0, 0), (.iload_n 3, 0, 0), (.aload_n 0, 0, 0), (.iconst 1, 0, 0)] (by decide +kernel) trivial ⟨o1, ?_⟩
  show Ev (d + 1) M_Mo_wonAt 0 0 21 [(2, v0), (0, v1), (0, v2), (0, v3), (0, v4), (0, v5), (0, iw (Int.tdiv v1 x2)), (0, Int.tmod v1 x5), zJ, zJ, zJ, zJ] [(0, 1), (2, v0), (0, v3)] kd m6 (zqI kd q)
  obtain ⟨ov, h⟩ := h
  obtain ⟨q7, hq, h⟩ := h
  refine EvX.callV (c := 8) (mc := 0) (ms := 0) (as := [(0, 1)]) (st := [(0, v3)]) (by decide +kernel) l_Mo_163 k_Mo_questions v_Mo_questions a_Mo_questions (by decide) (Nat.le_of_ble_eq_true rfl) rfl ov hq (fun r kd1 m9 hr => ?_)
  obtain ⟨x8, rfl, hk, hr⟩ := hr
  subst kd1
  have h := h x8 m9 hr
  show Ev (d + 1) M_Mo_wonAt 0 0 24 [(2, v0), (0, v1), (0, v2), (0, v3), (0, v4), (0, v5), (0, iw (Int.tdiv v1 x2)), (0, Int.tmod v1 x5), zJ, zJ, zJ, zJ] [(0, x8), (0, v3)] kd m9 (zqI kd q)
  obtain ⟨o1, h⟩ := h
  refine EvX.blk (pc' := 30) [(.idiv, 0, 0), (.istore 8, 0, 0), (.iload_n 3, 0, 0), (.aload_n 0, 0, 0), (.iconst 1, 0, 0)] (by decide +kernel) trivial ⟨o1, ?_⟩
  show Ev (d + 1) M_Mo_wonAt 0 0 30 [(2, v0), (0, v1), (0, v2), (0, v3), (0, v4), (0, v5), (0, iw (Int.tdiv v1 x2)), (0, Int.tmod v1 x5), (0, iw (Int.tdiv v3 x8)), zJ, zJ, zJ] [(0, 1), (2, v0), (0, v3)] kd m9 (zqI kd q)
  obtain ⟨ov, h⟩ := h
  obtain ⟨q10, hq, h⟩ := h
  refine EvX.callV (c := 8) (mc := 0) (ms := 0) (as := [(0, 1)]) (st := [(0, v3)]) (by decide +kernel) l_Mo_163 k_Mo_questions v_Mo_questions a_Mo_questions (by decide) (Nat.le_of_ble_eq_true rfl) rfl ov hq (fun r kd1 m12 hr => ?_)
  obtain ⟨x11, rfl, hk, hr⟩ := hr
  subst kd1
  have h := h x11 m12 hr
  show Ev (d + 1) M_Mo_wonAt 0 0 33 [(2, v0), (0, v1), (0, v2), (0, v3), (0, v4), (0, v5), (0, iw (Int.tdiv v1 x2)), (0, Int.tmod v1 x5), (0, iw (Int.tdiv v3 x8)), zJ, zJ, zJ] [(0, x11), (0, v3)] kd m12 (zqI kd q)
  obtain ⟨o1, h⟩ := h
  refine EvX.blk (pc' := 44) [(.irem, 0, 0), (.istore 9, 0, 0), (.aload_n 0, 0, 0), (.iload 6, 0, 0), (.iload 8, 0, 0), (.iload_n 2, 0, 0), (.aload_n 0, 0, 0), (.iconst 0, 0, 0)] (by decide +kernel) trivial ⟨o1, ?_⟩
  show Ev (d + 1) M_Mo_wonAt 0 0 44 [(2, v0), (0, v1), (0, v2), (0, v3), (0, v4), (0, v5), (0, iw (Int.tdiv v1 x2)), (0, Int.tmod v1 x5), (0, iw (Int.tdiv v3 x8)), (0, Int.tmod v3 x11), zJ, zJ] [(0, 0), (2, v0), (0, v2), (0, iw (Int.tdiv v3 x8)), (0, iw (Int.tdiv v1 x2)), (2, v0)] kd m12 (zqI kd q)
  obtain ⟨ov, h⟩ := h
  obtain ⟨q13, hq, h⟩ := h
  refine EvX.callV (c := 8) (mc := 0) (ms := 0) (as := [(0, 0)]) (st := [(0, v2), (0, iw (Int.tdiv v3 x8)), (0, iw (Int.tdiv v1 x2)), (2, v0)]) (by decide +kernel) l_Mo_167 k_Mo_answers v_Mo_answers a_Mo_answers (by decide) (Nat.le_of_ble_eq_true rfl) rfl ov hq (fun r kd1 m15 hr => ?_)
  obtain ⟨x14, rfl, hk, hr⟩ := hr
  subst kd1
  have h := h x14 m15 hr
  show Ev (d + 1) M_Mo_wonAt 0 0 47 [(2, v0), (0, v1), (0, v2), (0, v3), (0, v4), (0, v5), (0, iw (Int.tdiv v1 x2)), (0, Int.tmod v1 x5), (0, iw (Int.tdiv v3 x8)), (0, Int.tmod v3 x11), zJ, zJ] [(0, x14), (0, v2), (0, iw (Int.tdiv v3 x8)), (0, iw (Int.tdiv v1 x2)), (2, v0)] kd m15 (zqI kd q)
  obtain ⟨o1, h⟩ := h
  refine EvX.blk (pc' := 52) [(.idiv, 0, 0), (.iload 4, 0, 0), (.aload_n 0, 0, 0), (.iconst 1, 0, 0)] (by decide +kernel) trivial ⟨o1, ?_⟩
  show Ev (d + 1) M_Mo_wonAt 0 0 52 [(2, v0), (0, v1), (0, v2), (0, v3), (0, v4), (0, v5), (0, iw (Int.tdiv v1 x2)), (0, Int.tmod v1 x5), (0, iw (Int.tdiv v3 x8)), (0, Int.tmod v3 x11), zJ, zJ] [(0, 1), (2, v0), (0, v4), (0, iw (Int.tdiv v2 x14)), (0, iw (Int.tdiv v3 x8)), (0, iw (Int.tdiv v1 x2)), (2, v0)] kd m15 (zqI kd q)
  obtain ⟨ov, h⟩ := h
  obtain ⟨q16, hq, h⟩ := h
  refine EvX.callV (c := 8) (mc := 0) (ms := 0) (as := [(0, 1)]) (st := [(0, v4), (0, iw (Int.tdiv v2 x14)), (0, iw (Int.tdiv v3 x8)), (0, iw (Int.tdiv v1 x2)), (2, v0)]) (by decide +kernel) l_Mo_167 k_Mo_answers v_Mo_answers a_Mo_answers (by decide) (Nat.le_of_ble_eq_true rfl) rfl ov hq (fun r kd1 m18 hr => ?_)
  obtain ⟨x17, rfl, hk, hr⟩ := hr
  subst kd1
  have h := h x17 m18 hr
  show Ev (d + 1) M_Mo_wonAt 0 0 55 [(2, v0), (0, v1), (0, v2), (0, v3), (0, v4), (0, v5), (0, iw (Int.tdiv v1 x2)), (0, Int.tmod v1 x5), (0, iw (Int.tdiv v3 x8)), (0, Int.tmod v3 x11), zJ, zJ] [(0, x17), (0, v4), (0, iw (Int.tdiv v2 x14)), (0, iw (Int.tdiv v3 x8)), (0, iw (Int.tdiv v1 x2)), (2, v0)] kd m18 (zqI kd q)
  obtain ⟨o1, h⟩ := h
  refine EvX.blk (pc' := 56) [(.idiv, 0, 0)] (by decide +kernel) trivial ⟨o1, ?_⟩
  show Ev (d + 1) M_Mo_wonAt 0 0 56 [(2, v0), (0, v1), (0, v2), (0, v3), (0, v4), (0, v5), (0, iw (Int.tdiv v1 x2)), (0, Int.tmod v1 x5), (0, iw (Int.tdiv v3 x8)), (0, Int.tmod v3 x11), zJ, zJ] [(0, iw (Int.tdiv v4 x17)), (0, iw (Int.tdiv v2 x14)), (0, iw (Int.tdiv v3 x8)), (0, iw (Int.tdiv v1 x2)), (2, v0)] kd m18 (zqI kd q)
  obtain ⟨ov, h⟩ := h
  obtain ⟨q19, hq, h⟩ := h
  refine EvX.callV (c := 8) (mc := 0) (ms := 0) (as := [(0, iw (Int.tdiv v1 x2)), (0, iw (Int.tdiv v3 x8)), (0, iw (Int.tdiv v2 x14)), (0, iw (Int.tdiv v4 x17))]) (st := []) (by decide +kernel) l_Mo_197 k_Mo_isWin v_Mo_isWin a_Mo_isWin (by decide) (Nat.le_of_ble_eq_true rfl) rfl ov hq (fun r kd1 m21 hr => ?_)
  obtain ⟨x20, rfl, hk, hr⟩ := hr
  subst kd1
  have h := h x20 m21 hr
  show Ev (d + 1) M_Mo_wonAt 0 0 59 [(2, v0), (0, v1), (0, v2), (0, v3), (0, v4), (0, v5), (0, iw (Int.tdiv v1 x2)), (0, Int.tmod v1 x5), (0, iw (Int.tdiv v3 x8)), (0, Int.tmod v3 x11), zJ, zJ] [(0, x20)] kd m21 (zqI kd q)
  refine EvX.blk (pc' := 69) [(.istore 10, 0, 0), (.aload_n 0, 0, 0), (.iload 7, 0, 0), (.iload 9, 0, 0), (.iload_n 2, 0, 0), (.aload_n 0, 0, 0), (.iconst 0, 0, 0)] (by decide +kernel) trivial ?_
  show Ev (d + 1) M_Mo_wonAt 0 0 69 [(2, v0), (0, v1), (0, v2), (0, v3), (0, v4), (0, v5), (0, iw (Int.tdiv v1 x2)), (0, Int.tmod v1 x5), (0, iw (Int.tdiv v3 x8)), (0, Int.tmod v3 x11), (0, x20), zJ] [(0, 0), (2, v0), (0, v2), (0, Int.tmod v3 x11), (0, Int.tmod v1 x5), (2, v0)] kd m21 (zqI kd q)
  obtain ⟨ov, h⟩ := h
  obtain ⟨q22, hq, h⟩ := h
  refine EvX.callV (c := 8) (mc := 0) (ms := 0) (as := [(0, 0)]) (st := [(0, v2), (0, Int.tmod v3 x11), (0, Int.tmod v1 x5), (2, v0)]) (by decide +kernel) l_Mo_167 k_Mo_answers v_Mo_answers a_Mo_answers (by decide) (Nat.le_of_ble_eq_true rfl) rfl ov hq (fun r kd1 m24 hr => ?_)
  obtain ⟨x23, rfl, hk, hr⟩ := hr
  subst kd1
  have h := h x23 m24 hr
  show Ev (d + 1) M_Mo_wonAt 0 0 72 [(2, v0), (0, v1), (0, v2), (0, v3), (0, v4), (0, v5), (0, iw (Int.tdiv v1 x2)), (0, Int.tmod v1 x5), (0, iw (Int.tdiv v3 x8)), (0, Int.tmod v3 x11), (0, x20), zJ] [(0, x23), (0, v2), (0, Int.tmod v3 x11), (0, Int.tmod v1 x5), (2, v0)] kd m24 (zqI kd q)
  obtain ⟨o1, h⟩ := h
  refine EvX.blk (pc' := 77) [(.irem, 0, 0), (.iload 4, 0, 0), (.aload_n 0, 0, 0), (.iconst 1, 0, 0)] (by decide +kernel) trivial ⟨o1, ?_⟩
  show Ev (d + 1) M_Mo_wonAt 0 0 77 [(2, v0), (0, v1), (0, v2), (0, v3), (0, v4), (0, v5), (0, iw (Int.tdiv v1 x2)), (0, Int.tmod v1 x5), (0, iw (Int.tdiv v3 x8)), (0, Int.tmod v3 x11), (0, x20), zJ] [(0, 1), (2, v0), (0, v4), (0, Int.tmod v2 x23), (0, Int.tmod v3 x11), (0, Int.tmod v1 x5), (2, v0)] kd m24 (zqI kd q)
  obtain ⟨ov, h⟩ := h
  obtain ⟨q25, hq, h⟩ := h
  refine EvX.callV (c := 8) (mc := 0) (ms := 0) (as := [(0, 1)]) (st := [(0, v4), (0, Int.tmod v2 x23), (0, Int.tmod v3 x11), (0, Int.tmod v1 x5), (2, v0)]) (by decide +kernel) l_Mo_167 k_Mo_answers v_Mo_answers a_Mo_answers (by decide) (Nat.le_of_ble_eq_true rfl) rfl ov hq (fun r kd1 m27 hr => ?_)
  obtain ⟨x26, rfl, hk, hr⟩ := hr
  subst kd1
  have h := h x26 m27 hr
  show Ev (d + 1) M_Mo_wonAt 0 0 80 [(2, v0), (0, v1), (0, v2), (0, v3), (0, v4), (0, v5), (0, iw (Int.tdiv v1 x2)), (0, Int.tmod v1 x5), (0, iw (Int.tdiv v3 x8)), (0, Int.tmod v3 x11), (0, x20), zJ] [(0, x26), (0, v4), (0, Int.tmod v2 x23), (0, Int.tmod v3 x11), (0, Int.tmod v1 x5), (2, v0)] kd m27 (zqI kd q)
  obtain ⟨o1, h⟩ := h
  refine EvX.blk (pc' := 81) [(.irem, 0, 0)] (by decide +kernel) trivial ⟨o1, ?_⟩
  show Ev (d + 1) M_Mo_wonAt 0 0 81 [(2, v0), (0, v1), (0, v2), (0, v3), (0, v4), (0, v5), (0, iw (Int.tdiv v1 x2)), (0, Int.tmod v1 x5), (0, iw (Int.tdiv v3 x8)), (0, Int.tmod v3 x11), (0, x20), zJ] [(0, Int.tmod v4 x26), (0, Int.tmod v2 x23), (0, Int.tmod v3 x11), (0, Int.tmod v1 x5), (2, v0)] kd m27 (zqI kd q)
  obtain ⟨ov, h⟩ := h
  obtain ⟨q28, hq, h⟩ := h
  refine EvX.callV (c := 8) (mc := 0) (ms := 0) (as := [(0, Int.tmod v1 x5), (0, Int.tmod v3 x11), (0, Int.tmod v2 x23), (0, Int.tmod v4 x26)]) (st := []) (by decide +kernel) l_Mo_197 k_Mo_isWin v_Mo_isWin a_Mo_isWin (by decide) (Nat.le_of_ble_eq_true rfl) rfl ov hq (fun r kd1 m30 hr => ?_)
  obtain ⟨x29, rfl, hk, hr⟩ := hr
  subst kd1
  have h := h x29 m30 hr
  show Ev (d + 1) M_Mo_wonAt 0 0 84 [(2, v0), (0, v1), (0, v2), (0, v3), (0, v4), (0, v5), (0, iw (Int.tdiv v1 x2)), (0, Int.tmod v1 x5), (0, iw (Int.tdiv v3 x8)), (0, Int.tmod v3 x11), (0, x20), zJ] [(0, x29)] kd m30 (zqI kd q)
  refine EvX.blk (pc' := 88) [(.istore 11, 0, 0), (.iload 5, 0, 0)] (by decide +kernel) trivial ?_
  show Ev (d + 1) M_Mo_wonAt 0 0 88 [(2, v0), (0, v1), (0, v2), (0, v3), (0, v4), (0, v5), (0, iw (Int.tdiv v1 x2)), (0, Int.tmod v1 x5), (0, iw (Int.tdiv v3 x8)), (0, Int.tmod v3 x11), (0, x20), (0, x29)] [(0, v5)] kd m30 (zqI kd q)
  refine EvX.if_eq (off := 37) (tgt := 125) (by decide +kernel) (by decide) (fun hc => ?_) (fun hc => ?_)
  · have h := h.1 hc
    refine EvX.blk (pc' := 127) [(.iload 10, 0, 0)] (by decide +kernel) trivial ?_
    show Ev (d + 1) M_Mo_wonAt 0 0 127 [(2, v0), (0, v1), (0, v2), (0, v3), (0, v4), (0, v5), (0, iw (Int.tdiv v1 x2)), (0, Int.tmod v1 x5), (0, iw (Int.tdiv v3 x8)), (0, Int.tmod v3 x11), (0, x20), (0, x29)] [(0, x20)] kd m30 (zqI kd q)
    refine EvX.if_ne (off := 8) (tgt := 135) (by decide +kernel) (by decide) (fun hc => ?_) (fun hc => ?_)
    · have h := h.1 hc
      exact EvX.weak (ls2 := [(2, v0), zJ, zJ, zJ, zJ, zJ, (0, iw (Int.tdiv v1 x2)), (0, Int.tmod v1 x5), (0, iw (Int.tdiv v3 x8)), (0, Int.tmod v3 x11), zJ, zJ]) (zwk_of ⟨Or.inr rfl, Or.inl rfl, Or.inl rfl, Or.inl rfl, Or.inl rfl, Or.inl rfl, Or.inr rfl, Or.inr rfl, Or.inr rfl, Or.inr rfl, Or.inl rfl, Or.inl rfl, trivial⟩) h
    · have h := h.2 hc
      refine EvX.blk (pc' := 132) [(.iload 11, 0, 0)] (by decide +kernel) trivial ?_
      show Ev (d + 1) M_Mo_wonAt 0 0 132 [(2, v0), (0, v1), (0, v2), (0, v3), (0, v4), (0, v5), (0, iw (Int.tdiv v1 x2)), (0, Int.tmod v1 x5), (0, iw (Int.tdiv v3 x8)), (0, Int.tmod v3 x11), (0, x20), (0, x29)] [(0, x29)] kd m30 (zqI kd q)
      refine EvX.if_eq (off := 23) (tgt := 155) (by decide +kernel) (by decide) (fun hc => ?_) (fun hc => ?_)
      · have h := h.1 hc
        refine EvX.blk (pc' := 156) [(.iconst 0, 0, 0)] (by decide +kernel) trivial ?_
        show Ev (d + 1) M_Mo_wonAt 0 0 156 [(2, v0), (0, v1), (0, v2), (0, v3), (0, v4), (0, v5), (0, iw (Int.tdiv v1 x2)), (0, Int.tmod v1 x5), (0, iw (Int.tdiv v3 x8)), (0, Int.tmod v3 x11), (0, x20), (0, x29)] [(0, 0)] kd m30 (zqI kd q)
        exact EvX.ret (r := (0, 0)) (by decide +kernel) rfl ⟨_, rfl, rfl, h⟩
      · have h := h.2 hc
        exact EvX.weak (ls2 := [(2, v0), zJ, zJ, zJ, zJ, zJ, (0, iw (Int.tdiv v1 x2)), (0, Int.tmod v1 x5), (0, iw (Int.tdiv v3 x8)), (0, Int.tmod v3 x11), zJ, zJ]) (zwk_of ⟨Or.inr rfl, Or.inl rfl, Or.inl rfl, Or.inl rfl, Or.inl rfl, Or.inl rfl, Or.inr rfl, Or.inr rfl, Or.inr rfl, Or.inr rfl, Or.inl rfl, Or.inl rfl, trivial⟩) h
  · have h := h.2 hc
    refine EvX.blk (pc' := 93) [(.iload 10, 0, 0)] (by decide +kernel) trivial ?_
    show Ev (d + 1) M_Mo_wonAt 0 0 93 [(2, v0), (0, v1), (0, v2), (0, v3), (0, v4), (0, v5), (0, iw (Int.tdiv v1 x2)), (0, Int.tmod v1 x5), (0, iw (Int.tdiv v3 x8)), (0, Int.tmod v3 x11), (0, x20), (0, x29)] [(0, x20)] kd m30 (zqI kd q)
    refine EvX.if_eq (off := 28) (tgt := 121) (by decide +kernel) (by decide) (fun hc => ?_) (fun hc => ?_)
    · have h := h.1 hc
      refine EvX.blk (pc' := 122) [(.iconst 0, 0, 0)] (by decide +kernel) trivial ?_
      show Ev (d + 1) M_Mo_wonAt 0 0 122 [(2, v0), (0, v1), (0, v2), (0, v3), (0, v4), (0, v5), (0, iw (Int.tdiv v1 x2)), (0, Int.tmod v1 x5), (0, iw (Int.tdiv v3 x8)), (0, Int.tmod v3 x11), (0, x20), (0, x29)] [(0, 0)] kd m30 (zqI kd q)
      refine EvX.goto (off := 34) (tgt := 156) (by decide +kernel) (by decide) ?_
      exact EvX.ret (r := (0, 0)) (by decide +kernel) rfl ⟨_, rfl, rfl, h⟩
    · have h := h.2 hc
      refine EvX.blk (pc' := 98) [(.iload 11, 0, 0)] (by decide +kernel) trivial ?_
      show Ev (d + 1) M_Mo_wonAt 0 0 98 [(2, v0), (0, v1), (0, v2), (0, v3), (0, v4), (0, v5), (0, iw (Int.tdiv v1 x2)), (0, Int.tmod v1 x5), (0, iw (Int.tdiv v3 x8)), (0, Int.tmod v3 x11), (0, x20), (0, x29)] [(0, x29)] kd m30 (zqI kd q)
      refine EvX.if_eq (off := 23) (tgt := 121) (by decide +kernel) (by decide) (fun hc => ?_) (fun hc => ?_)
      · have h := h.1 hc
        refine EvX.blk (pc' := 122) [(.iconst 0, 0, 0)] (by decide +kernel) trivial ?_
        show Ev (d + 1) M_Mo_wonAt 0 0 122 [(2, v0), (0, v1), (0, v2), (0, v3), (0, v4), (0, v5), (0, iw (Int.tdiv v1 x2)), (0, Int.tmod v1 x5), (0, iw (Int.tdiv v3 x8)), (0, Int.tmod v3 x11), (0, x20), (0, x29)] [(0, 0)] kd m30 (zqI kd q)
        refine EvX.goto (off := 34) (tgt := 156) (by decide +kernel) (by decide) ?_
        exact EvX.ret (r := (0, 0)) (by decide +kernel) rfl ⟨_, rfl, rfl, h⟩
      · have h := h.2 hc
        refine EvX.blk (pc' := 106) [(.aload_n 0, 0, 0), (.iload 6, 0, 0), (.iload 8, 0, 0)] (by decide +kernel) trivial ?_
        show Ev (d + 1) M_Mo_wonAt 0 0 106 [(2, v0), (0, v1), (0, v2), (0, v3), (0, v4), (0, v5), (0, iw (Int.tdiv v1 x2)), (0, Int.tmod v1 x5), (0, iw (Int.tdiv v3 x8)), (0, Int.tmod v3 x11), (0, x20), (0, x29)] [(0, iw (Int.tdiv v3 x8)), (0, iw (Int.tdiv v1 x2)), (2, v0)] kd m30 (zqI kd q)
        obtain ⟨ov, h⟩ := h
        obtain ⟨q31, hq, h⟩ := h
        refine EvX.callV (c := 8) (mc := 0) (ms := 0) (as := [(0, iw (Int.tdiv v1 x2)), (0, iw (Int.tdiv v3 x8))]) (st := []) (by decide +kernel) l_Mo_180 k_Mo_weightOf v_Mo_weightOf a_Mo_weightOf (by decide) (Nat.le_of_ble_eq_true rfl) rfl ov hq (fun r kd1 m33 hr => ?_)
        obtain ⟨x32, rfl, hk, hr⟩ := hr
        subst kd1
        have h := h x32 m33 hr
        show Ev (d + 1) M_Mo_wonAt 0 0 109 [(2, v0), (0, v1), (0, v2), (0, v3), (0, v4), (0, v5), (0, iw (Int.tdiv v1 x2)), (0, Int.tmod v1 x5), (0, iw (Int.tdiv v3 x8)), (0, Int.tmod v3 x11), (0, x20), (0, x29)] [(0, x32)] kd m33 (zqI kd q)
        refine EvX.blk (pc' := 114) [(.aload_n 0, 0, 0), (.iload 7, 0, 0), (.iload 9, 0, 0)] (by decide +kernel) trivial ?_
        show Ev (d + 1) M_Mo_wonAt 0 0 114 [(2, v0), (0, v1), (0, v2), (0, v3), (0, v4), (0, v5), (0, iw (Int.tdiv v1 x2)), (0, Int.tmod v1 x5), (0, iw (Int.tdiv v3 x8)), (0, Int.tmod v3 x11), (0, x20), (0, x29)] [(0, Int.tmod v3 x11), (0, Int.tmod v1 x5), (2, v0), (0, x32)] kd m33 (zqI kd q)
        obtain ⟨ov, h⟩ := h
        obtain ⟨q34, hq, h⟩ := h
        refine EvX.callV (c := 8) (mc := 0) (ms := 0) (as := [(0, Int.tmod v1 x5), (0, Int.tmod v3 x11)]) (st := [(0, x32)]) (by decide +kernel) l_Mo_180 k_Mo_weightOf v_Mo_weightOf a_Mo_weightOf (by decide) (Nat.le_of_ble_eq_true rfl) rfl ov hq (fun r kd1 m36 hr => ?_)
        obtain ⟨x35, rfl, hk, hr⟩ := hr
        subst kd1
        have h := h x35 m36 hr
        show Ev (d + 1) M_Mo_wonAt 0 0 117 [(2, v0), (0, v1), (0, v2), (0, v3), (0, v4), (0, v5), (0, iw (Int.tdiv v1 x2)), (0, Int.tmod v1 x5), (0, iw (Int.tdiv v3 x8)), (0, Int.tmod v3 x11), (0, x20), (0, x29)] [(0, x35), (0, x32)] kd m36 (zqI kd q)
        refine EvX.blk (pc' := 118) [(.imul, 0, 0)] (by decide +kernel) trivial ?_
        show Ev (d + 1) M_Mo_wonAt 0 0 118 [(2, v0), (0, v1), (0, v2), (0, v3), (0, v4), (0, v5), (0, iw (Int.tdiv v1 x2)), (0, Int.tmod v1 x5), (0, iw (Int.tdiv v3 x8)), (0, Int.tmod v3 x11), (0, x20), (0, x29)] [(0, iw (x32 * x35))] kd m36 (zqI kd q)
        refine EvX.goto (off := 38) (tgt := 156) (by decide +kernel) (by decide) ?_
        exact EvX.ret (r := (0, iw (x32 * x35))) (by decide +kernel) rfl ⟨_, rfl, rfl, h⟩
theorem S_Mo_wonAt {d : Nat} {kd : ZK} {m : ZM} {q : Int → ZM → Prop} {v0 v1 v2 v3 v4 v5 : Int} (h : (zobj kd v0 8 ∧ ∃ q1, CtI d M_Mo_questions [(2, v0), (0, 0)] kd m q1 ∧ ∀ x2 m3, q1 x2 m3 → (x2 ≠ 0 ∧ (zobj kd v0 8 ∧ ∃ q4, CtI d M_Mo_questions [(2, v0), (0, 0)] kd m3 q4 ∧ ∀ x5 m6, q4 x5 m6 → (x5 ≠ 0 ∧ (zobj kd v0 8 ∧ ∃ q7, CtI d M_Mo_questions [(2, v0), (0, 1)] kd m6 q7 ∧ ∀ x8 m9, q7 x8 m9 → (x8 ≠ 0 ∧ (zobj kd v0 8 ∧ ∃ q10, CtI d M_Mo_questions [(2, v0), (0, 1)] kd m9 q10 ∧ ∀ x11 m12, q10 x11 m12 → (x11 ≠ 0 ∧ (zobj kd v0 8 ∧ ∃ q13, CtI d M_Mo_answers [(2, v0), (0, 0)] kd m12 q13 ∧ ∀ x14 m15, q13 x14 m15 → (x14 ≠ 0 ∧ (zobj kd v0 8 ∧ ∃ q16, CtI d M_Mo_answers [(2, v0), (0, 1)] kd m15 q16 ∧ ∀ x17 m18, q16 x17 m18 → (x17 ≠ 0 ∧ (zobj kd v0 8 ∧ ∃ q19, CtI d M_Mo_isWin [(2, v0), (0, iw (Int.tdiv v1 x2)), (0, iw (Int.tdiv v3 x8)), (0, iw (Int.tdiv v2 x14)), (0, iw (Int.tdiv v4 x17))] kd m18 q19 ∧ ∀ x20 m21, q19 x20 m21 → (zobj kd v0 8 ∧ ∃ q22, CtI d M_Mo_answers [(2, v0), (0, 0)] kd m21 q22 ∧ ∀ x23 m24, q22 x23 m24 → (x23 ≠ 0 ∧ (zobj kd v0 8 ∧ ∃ q25, CtI d M_Mo_answers [(2, v0), (0, 1)] kd m24 q25 ∧ ∀ x26 m27, q25 x26 m27 → (x26 ≠ 0 ∧ (zobj kd v0 8 ∧ ∃ q28, CtI d M_Mo_isWin [(2, v0), (0, Int.tmod v1 x5), (0, Int.tmod v3 x11), (0, Int.tmod v2 x23), (0, Int.tmod v4 x26)] kd m27 q28 ∧ ∀ x29 m30, q28 x29 m30 → ((v5 = 0 → ((x20 ≠ 0 → (Ev (d + 1) M_Mo_wonAt 0 0 135 [(2, v0), zJ, zJ, zJ, zJ, zJ, (0, iw (Int.tdiv v1 x2)), (0, Int.tmod v1 x5), (0, iw (Int.tdiv v3 x8)), (0, Int.tmod v3 x11), zJ, zJ] [] kd m30 (zqI kd q))) ∧ (¬ x20 ≠ 0 → ((x29 = 0 → q 0 m30) ∧ (¬ x29 = 0 → (Ev (d + 1) M_Mo_wonAt 0 0 135 [(2, v0), zJ, zJ, zJ, zJ, zJ, (0, iw (Int.tdiv v1 x2)), (0, Int.tmod v1 x5), (0, iw (Int.tdiv v3 x8)), (0, Int.tmod v3 x11), zJ, zJ] [] kd m30 (zqI kd q))))))) ∧ (¬ v5 = 0 → ((x20 = 0 → q 0 m30) ∧ (¬ x20 = 0 → ((x29 = 0 → q 0 m30) ∧ (¬ x29 = 0 → (zobj kd v0 8 ∧ ∃ q31, CtI d M_Mo_weightOf [(2, v0), (0, iw (Int.tdiv v1 x2)), (0, iw (Int.tdiv v3 x8))] kd m30 q31 ∧ ∀ x32 m33, q31 x32 m33 → (zobj kd v0 8 ∧ ∃ q34, CtI d M_Mo_weightOf [(2, v0), (0, Int.tmod v1 x5), (0, Int.tmod v3 x11)] kd m33 q34 ∧ ∀ x35 m36, q34 x35 m36 → q (iw (x32 * x35)) m36))))))))))))))))))))))))))) : CtI (d + 1) M_Mo_wonAt [(2, v0), (0, v1), (0, v2), (0, v3), (0, v4), (0, v5)] kd m q :=
  Ct.start k_Mo_wonAt (Nat.le_of_ble_eq_true rfl) ⟨1, Or.inr (Or.inl ⟨rfl, rfl⟩)⟩ (T_Mo_wonAt_0 h)
set_option maxRecDepth 20000 in
set_option maxHeartbeats 1000000 in
theorem T_Mo_wonAt_135 {d : Nat} {kd : ZK} {m : ZM} {q : Int → ZM → Prop} {v0 v6 v7 v8 v9 : Int} (h : (zobj kd v0 8 ∧ ∃ q1, CtI d M_Mo_weightOf [(2, v0), (0, v6), (0, v8)] kd m q1 ∧ ∀ x2 m3, q1 x2 m3 → (zobj kd v0 8 ∧ ∃ q4, CtI d M_Mo_weightOf [(2, v0), (0, v7), (0, v9)] kd m3 q4 ∧ ∀ x5 m6, q4 x5 m6 → q (iw (x2 * x5)) m6))) : Ev (d + 1) M_Mo_wonAt 0 0 135 [(2, v0), zJ, zJ, zJ, zJ, zJ, (0, v6), (0, v7), (0, v8), (0, v9), zJ, zJ] [] kd m (zqI kd q) := by
  refine EvX.blk (pc' := 140) [(.aload_n 0, 0, 0), (.iload 6, 0, 0), (.iload 8, 0, 0)] (by decide +kernel) trivial ?_
  show Ev (d + 1) M_Mo_wonAt 0 0 140 [(2, v0), zJ, zJ, zJ, zJ, zJ, (0, v6), (0, v7), (0, v8), (0, v9), zJ, zJ] [(0, v8), (0, v6), (2, v0)] kd m (zqI kd q)
  obtain ⟨ov, h⟩ := h
  obtain ⟨q1, hq, h⟩ := h
  refine EvX.callV (c := 8) (mc := 0) (ms := 0) (as := [(0, v6), (0, v8)]) (st := []) (by decide +kernel) l_Mo_180 k_Mo_weightOf v_Mo_weightOf a_Mo_weightOf (by decide) (Nat.le_of_ble_eq_true rfl) rfl ov hq (fun r kd1 m3 hr => ?_)
  obtain ⟨x2, rfl, hk, hr⟩ := hr
  subst kd1
  have h := h x2 m3 hr
  show Ev (d + 1) M_Mo_wonAt 0 0 143 [(2, v0), zJ, zJ, zJ, zJ, zJ, (0, v6), (0, v7), (0, v8), (0, v9), zJ, zJ] [(0, x2)] kd m3 (zqI kd q)
  refine EvX.blk (pc' := 148) [(.aload_n 0, 0, 0), (.iload 7, 0, 0), (.iload 9, 0, 0)] (by decide +kernel) trivial ?_
  show Ev (d + 1) M_Mo_wonAt 0 0 148 [(2, v0), zJ, zJ, zJ, zJ, zJ, (0, v6), (0, v7), (0, v8), (0, v9), zJ, zJ] [(0, v9), (0, v7), (2, v0), (0, x2)] kd m3 (zqI kd q)
  obtain ⟨ov, h⟩ := h
  obtain ⟨q4, hq, h⟩ := h
  refine EvX.callV (c := 8) (mc := 0) (ms := 0) (as := [(0, v7), (0, v9)]) (st := [(0, x2)]) (by decide +kernel) l_Mo_180 k_Mo_weightOf v_Mo_weightOf a_Mo_weightOf (by decide) (Nat.le_of_ble_eq_true rfl) rfl ov hq (fun r kd1 m6 hr => ?_)
  obtain ⟨x5, rfl, hk, hr⟩ := hr
  subst kd1
  have h := h x5 m6 hr
  show Ev (d + 1) M_Mo_wonAt 0 0 151 [(2, v0), zJ, zJ, zJ, zJ, zJ, (0, v6), (0, v7), (0, v8), (0, v9), zJ, zJ] [(0, x5), (0, x2)] kd m6 (zqI kd q)
  refine EvX.blk (pc' := 152) [(.imul, 0, 0)] (by decide +kernel) trivial ?_
  show Ev (d + 1) M_Mo_wonAt 0 0 152 [(2, v0), zJ, zJ, zJ, zJ, zJ, (0, v6), (0, v7), (0, v8), (0, v9), zJ, zJ] [(0, iw (x2 * x5))] kd m6 (zqI kd q)
  refine EvX.goto (off := 4) (tgt := 156) (by decide +kernel) (by decide) ?_
  exact EvX.ret (r := (0, iw (x2 * x5))) (by decide +kernel) rfl ⟨_, rfl, rfl, h⟩
set_option maxRecDepth 20000 in
set_option maxHeartbeats 1000000 in
theorem T_Mo_wonPlace_0 {d : Nat} {kd : ZK} {m : ZM} {q : Int → ZM → Prop} {v0 v1 v2 v3 : Int} (h : q (iw ((iw (16 * (iw ((iw (25 * (iw ((iw (16 * v0)) + v1)))) + v2)))) + v3)) m) : Ev (d + 1) M_Mo_wonPlace 0 0 0 [(0, v0), (0, v1), (0, v2), (0, v3)] [] kd m (zqI kd q) := by
  refine EvX.blk (pc' := 16) [(.bipush 16, 0, 0), (.bipush 25, 0, 0), (.bipush 16, 0, 0), (.iload_n 0, 0, 0), (.imul, 0, 0), (.iload_n 1, 0, 0), (.iadd, 0, 0), (.imul, 0, 0), (.iload_n 2, 0, 0), (.iadd, 0, 0), (.imul, 0, 0), (.iload_n 3, 0, 0), (.iadd, 0, 0)] (by decide +kernel) trivial ?_
  show Ev (d + 1) M_Mo_wonPlace 0 0 16 [(0, v0), (0, v1), (0, v2), (0, v3)] [(0, iw ((iw (16 * (iw ((iw (25 * (iw ((iw (16 * v0)) + v1)))) + v2)))) + v3))] kd m (zqI kd q)
  exact EvX.ret (r := (0, iw ((iw (16 * (iw ((iw (25 * (iw ((iw (16 * v0)) + v1)))) + v2)))) + v3))) (by decide +kernel) rfl ⟨_, rfl, rfl, h⟩
theorem S_Mo_wonPlace {d : Nat} {kd : ZK} {m : ZM} {q : Int → ZM → Prop} {v0 v1 v2 v3 : Int} (h : q (iw ((iw (16 * (iw ((iw (25 * (iw ((iw (16 * v0)) + v1)))) + v2)))) + v3)) m) : CtI (d + 1) M_Mo_wonPlace [(0, v0), (0, v1), (0, v2), (0, v3)] kd m q :=
  Ct.start k_Mo_wonPlace (Nat.le_of_ble_eq_true rfl) ⟨1, Or.inr (Or.inl ⟨rfl, rfl⟩)⟩ (T_Mo_wonPlace_0 h)
set_option maxRecDepth 20000 in
set_option maxHeartbeats 1000000 in
theorem T_Mo_pairRows_0 {d : Nat} {kd : ZK} {m : ZM} {q : Int → ZM → Prop} {v0 : Int} (h : (Ev (d + 1) M_Mo_pairRows 0 0 4 [(2, v0), (1, 1), zJ, (0, 0)] [] kd m (zqL kd q))) : Ev (d + 1) M_Mo_pairRows 0 0 0 [(2, v0), zJ, zJ, zJ] [] kd m (zqL kd q) := by
  refine EvX.blk (pc' := 4) [(.lconst 1, 0, 0), (.lstore_n 1, 0, 0), (.iconst 0, 0, 0), (.istore_n 3, 0, 0)] (by decide +kernel) trivial ?_
  show Ev (d + 1) M_Mo_pairRows 0 0 4 [(2, v0), (1, 1), zJ, (0, 0)] [] kd m (zqL kd q)
  exact h
theorem S_Mo_pairRows {d : Nat} {kd : ZK} {m : ZM} {q : Int → ZM → Prop} {v0 : Int} (h : (Ev (d + 1) M_Mo_pairRows 0 0 4 [(2, v0), (1, 1), zJ, (0, 0)] [] kd m (zqL kd q))) : CtL (d + 1) M_Mo_pairRows [(2, v0)] kd m q :=
  Ct.start k_Mo_pairRows (Nat.le_of_ble_eq_true rfl) ⟨3, Or.inr (Or.inr (Or.inr (Or.inl ⟨rfl, rfl⟩)))⟩ (T_Mo_pairRows_0 h)
set_option maxRecDepth 20000 in
set_option maxHeartbeats 1000000 in
theorem T_Mo_pairRows_4 {d : Nat} {kd : ZK} {m : ZM} {q : Int → ZM → Prop} {v0 v1 v3 : Int} (h : (zobj kd v0 8 ∧ ∃ q1, CtI d M_Mo_questions [(2, v0), (0, 0)] kd m q1 ∧ ∀ x2 m3, q1 x2 m3 → (zobj kd v0 8 ∧ ∃ q4, CtI d M_Mo_questions [(2, v0), (0, 0)] kd m3 q4 ∧ ∀ x5 m6, q4 x5 m6 → (((iw (x2 * x5)) ≤ v3 → q v1 m6) ∧ (¬ (iw (x2 * x5)) ≤ v3 → ((0 < (zcmp v1 70000) → q v1 m6) ∧ (¬ 0 < (zcmp v1 70000) → (zobj kd v0 8 ∧ ∃ q7, CtI d M_Mo_answers [(2, v0), (0, 0)] kd m6 q7 ∧ ∀ x8 m9, q7 x8 m9 → (zobj kd v0 8 ∧ ∃ q10, CtI d M_Mo_answers [(2, v0), (0, 0)] kd m9 q10 ∧ ∀ x11 m12, q10 x11 m12 → (Ev (d + 1) M_Mo_pairRows 0 0 4 [(2, v0), (1, lw64 (v1 * (iw (x8 * x11)))), zJ, (0, iw (v3 + 1))] [] kd m12 (zqL kd q))))))))))) : Ev (d + 1) M_Mo_pairRows 0 0 4 [(2, v0), (1, v1), zJ, (0, v3)] [] kd m (zqL kd q) := by
  refine EvX.blk (pc' := 7) [(.iload_n 3, 0, 0), (.aload_n 0, 0, 0), (.iconst 0, 0, 0)] (by decide +kernel) trivial ?_
  show Ev (d + 1) M_Mo_pairRows 0 0 7 [(2, v0), (1, v1), zJ, (0, v3)] [(0, 0), (2, v0), (0, v3)] kd m (zqL kd q)
  obtain ⟨ov, h⟩ := h
  obtain ⟨q1, hq, h⟩ := h
  refine EvX.callV (c := 8) (mc := 0) (ms := 0) (as := [(0, 0)]) (st := [(0, v3)]) (by decide +kernel) l_Mo_163 k_Mo_questions v_Mo_questions a_Mo_questions (by decide) (Nat.le_of_ble_eq_true rfl) rfl ov hq (fun r kd1 m3 hr => ?_)
  obtain ⟨x2, rfl, hk, hr⟩ := hr
  subst kd1
  have h := h x2 m3 hr
  show Ev (d + 1) M_Mo_pairRows 0 0 10 [(2, v0), (1, v1), zJ, (0, v3)] [(0, x2), (0, v3)] kd m3 (zqL kd q)
  refine EvX.blk (pc' := 12) [(.aload_n 0, 0, 0), (.iconst 0, 0, 0)] (by decide +kernel) trivial ?_
  show Ev (d + 1) M_Mo_pairRows 0 0 12 [(2, v0), (1, v1), zJ, (0, v3)] [(0, 0), (2, v0), (0, x2), (0, v3)] kd m3 (zqL kd q)
  obtain ⟨ov, h⟩ := h
  obtain ⟨q4, hq, h⟩ := h
  refine EvX.callV (c := 8) (mc := 0) (ms := 0) (as := [(0, 0)]) (st := [(0, x2), (0, v3)]) (by decide +kernel) l_Mo_163 k_Mo_questions v_Mo_questions a_Mo_questions (by decide) (Nat.le_of_ble_eq_true rfl) rfl ov hq (fun r kd1 m6 hr => ?_)
  obtain ⟨x5, rfl, hk, hr⟩ := hr
  subst kd1
  have h := h x5 m6 hr
  show Ev (d + 1) M_Mo_pairRows 0 0 15 [(2, v0), (1, v1), zJ, (0, v3)] [(0, x5), (0, x2), (0, v3)] kd m6 (zqL kd q)
  refine EvX.blk (pc' := 16) [(.imul, 0, 0)] (by decide +kernel) trivial ?_
  show Ev (d + 1) M_Mo_pairRows 0 0 16 [(2, v0), (1, v1), zJ, (0, v3)] [(0, iw (x2 * x5)), (0, v3)] kd m6 (zqL kd q)
  refine EvX.icmp_ge (off := 32) (tgt := 48) (by decide +kernel) (by decide) (fun hc => ?_) (fun hc => ?_)
  · have h := h.1 hc
    refine EvX.blk (pc' := 49) [(.lload_n 1, 0, 0)] (by decide +kernel) trivial ?_
    show Ev (d + 1) M_Mo_pairRows 0 0 49 [(2, v0), (1, v1), zJ, (0, v3)] [(1, v1)] kd m6 (zqL kd q)
    exact EvX.ret (r := (1, v1)) (by decide +kernel) rfl ⟨_, rfl, rfl, h⟩
  · have h := h.2 hc
    refine EvX.blk (pc' := 24) [(.lload_n 1, 0, 0), (.ldc2_w 338, 0, 70000), (.lcmp, 0, 0)] (by decide +kernel) ⟨z_Mo_338, trivial⟩ ?_
    show Ev (d + 1) M_Mo_pairRows 0 0 24 [(2, v0), (1, v1), zJ, (0, v3)] [(0, zcmp v1 70000)] kd m6 (zqL kd q)
    refine EvX.if_gt (off := 24) (tgt := 48) (by decide +kernel) (by decide) (fun hc => ?_) (fun hc => ?_)
    · have h := h.1 hc
      refine EvX.blk (pc' := 49) [(.lload_n 1, 0, 0)] (by decide +kernel) trivial ?_
      show Ev (d + 1) M_Mo_pairRows 0 0 49 [(2, v0), (1, v1), zJ, (0, v3)] [(1, v1)] kd m6 (zqL kd q)
      exact EvX.ret (r := (1, v1)) (by decide +kernel) rfl ⟨_, rfl, rfl, h⟩
    · have h := h.2 hc
      refine EvX.blk (pc' := 30) [(.lload_n 1, 0, 0), (.aload_n 0, 0, 0), (.iconst 0, 0, 0)] (by decide +kernel) trivial ?_
      show Ev (d + 1) M_Mo_pairRows 0 0 30 [(2, v0), (1, v1), zJ, (0, v3)] [(0, 0), (2, v0), (1, v1)] kd m6 (zqL kd q)
      obtain ⟨ov, h⟩ := h
      obtain ⟨q7, hq, h⟩ := h
      refine EvX.callV (c := 8) (mc := 0) (ms := 0) (as := [(0, 0)]) (st := [(1, v1)]) (by decide +kernel) l_Mo_167 k_Mo_answers v_Mo_answers a_Mo_answers (by decide) (Nat.le_of_ble_eq_true rfl) rfl ov hq (fun r kd1 m9 hr => ?_)
      obtain ⟨x8, rfl, hk, hr⟩ := hr
      subst kd1
      have h := h x8 m9 hr
      show Ev (d + 1) M_Mo_pairRows 0 0 33 [(2, v0), (1, v1), zJ, (0, v3)] [(0, x8), (1, v1)] kd m9 (zqL kd q)
      refine EvX.blk (pc' := 35) [(.aload_n 0, 0, 0), (.iconst 0, 0, 0)] (by decide +kernel) trivial ?_
      show Ev (d + 1) M_Mo_pairRows 0 0 35 [(2, v0), (1, v1), zJ, (0, v3)] [(0, 0), (2, v0), (0, x8), (1, v1)] kd m9 (zqL kd q)
      obtain ⟨ov, h⟩ := h
      obtain ⟨q10, hq, h⟩ := h
      refine EvX.callV (c := 8) (mc := 0) (ms := 0) (as := [(0, 0)]) (st := [(0, x8), (1, v1)]) (by decide +kernel) l_Mo_167 k_Mo_answers v_Mo_answers a_Mo_answers (by decide) (Nat.le_of_ble_eq_true rfl) rfl ov hq (fun r kd1 m12 hr => ?_)
      obtain ⟨x11, rfl, hk, hr⟩ := hr
      subst kd1
      have h := h x11 m12 hr
      show Ev (d + 1) M_Mo_pairRows 0 0 38 [(2, v0), (1, v1), zJ, (0, v3)] [(0, x11), (0, x8), (1, v1)] kd m12 (zqL kd q)
      refine EvX.blk (pc' := 45) [(.imul, 0, 0), (.i2l, 0, 0), (.lmul, 0, 0), (.lstore_n 1, 0, 0), (.iinc 3 1, 0, 0)] (by decide +kernel) trivial ?_
      show Ev (d + 1) M_Mo_pairRows 0 0 45 [(2, v0), (1, lw64 (v1 * (iw (x8 * x11)))), zJ, (0, iw (v3 + 1))] [] kd m12 (zqL kd q)
      refine EvX.goto (off := (-41)) (tgt := 4) (by decide +kernel) (by decide) ?_
      exact h
set_option maxRecDepth 20000 in
set_option maxHeartbeats 1000000 in
theorem T_Mo_laysWon_0 {d : Nat} {kd : ZK} {m : ZM} {q : ZM → Prop} {v0 v1 : Int} (h : (zobj kd v0 8 ∧ ∃ q1, CtI d M_Mo_answers [(2, v0), (0, 0)] kd m q1 ∧ ∀ x2 m3, q1 x2 m3 → (zobj kd v0 8 ∧ ∃ q4, CtI d M_Mo_answers [(2, v0), (0, 0)] kd m3 q4 ∧ ∀ x5 m6, q4 x5 m6 → (zobj kd v0 8 ∧ ∃ q7, CtI d M_Mo_answers [(2, v0), (0, 1)] kd m6 q7 ∧ ∀ x8 m9, q7 x8 m9 → (zobj kd v0 8 ∧ ∃ q10, CtI d M_Mo_answers [(2, v0), (0, 1)] kd m9 q10 ∧ ∀ x11 m12, q10 x11 m12 → (Ev (d + 1) M_Mo_laysWon 0 0 27 [(2, v0), (0, v1), (0, iw (x2 * x5)), (0, iw (x8 * x11)), (0, 0), zJ, zJ, zJ] [] kd m12 (zqV kd q))))))) : Ev (d + 1) M_Mo_laysWon 0 0 0 [(2, v0), (0, v1), zJ, zJ, zJ, zJ, zJ, zJ] [] kd m (zqV kd q) := by
  refine EvX.blk (pc' := 2) [(.aload_n 0, 0, 0), (.iconst 0, 0, 0)] (by decide +kernel) trivial ?_
  show Ev (d + 1) M_Mo_laysWon 0 0 2 [(2, v0), (0, v1), zJ, zJ, zJ, zJ, zJ, zJ] [(0, 0), (2, v0)] kd m (zqV kd q)
  obtain ⟨ov, h⟩ := h
  obtain ⟨q1, hq, h⟩ := h
  refine EvX.callV (c := 8) (mc := 0) (ms := 0) (as := [(0, 0)]) (st := []) (by decide +kernel) l_Mo_167 k_Mo_answers v_Mo_answers a_Mo_answers (by decide) (Nat.le_of_ble_eq_true rfl) rfl ov hq (fun r kd1 m3 hr => ?_)
  obtain ⟨x2, rfl, hk, hr⟩ := hr
  subst kd1
  have h := h x2 m3 hr
  show Ev (d + 1) M_Mo_laysWon 0 0 5 [(2, v0), (0, v1), zJ, zJ, zJ, zJ, zJ, zJ] [(0, x2)] kd m3 (zqV kd q)
  refine EvX.blk (pc' := 7) [(.aload_n 0, 0, 0), (.iconst 0, 0, 0)] (by decide +kernel) trivial ?_
  show Ev (d + 1) M_Mo_laysWon 0 0 7 [(2, v0), (0, v1), zJ, zJ, zJ, zJ, zJ, zJ] [(0, 0), (2, v0), (0, x2)] kd m3 (zqV kd q)
  obtain ⟨ov, h⟩ := h
  obtain ⟨q4, hq, h⟩ := h
  refine EvX.callV (c := 8) (mc := 0) (ms := 0) (as := [(0, 0)]) (st := [(0, x2)]) (by decide +kernel) l_Mo_167 k_Mo_answers v_Mo_answers a_Mo_answers (by decide) (Nat.le_of_ble_eq_true rfl) rfl ov hq (fun r kd1 m6 hr => ?_)
  obtain ⟨x5, rfl, hk, hr⟩ := hr
  subst kd1
  have h := h x5 m6 hr
  show Ev (d + 1) M_Mo_laysWon 0 0 10 [(2, v0), (0, v1), zJ, zJ, zJ, zJ, zJ, zJ] [(0, x5), (0, x2)] kd m6 (zqV kd q)
  refine EvX.blk (pc' := 14) [(.imul, 0, 0), (.istore_n 2, 0, 0), (.aload_n 0, 0, 0), (.iconst 1, 0, 0)] (by decide +kernel) trivial ?_
  show Ev (d + 1) M_Mo_laysWon 0 0 14 [(2, v0), (0, v1), (0, iw (x2 * x5)), zJ, zJ, zJ, zJ, zJ] [(0, 1), (2, v0)] kd m6 (zqV kd q)
  obtain ⟨ov, h⟩ := h
  obtain ⟨q7, hq, h⟩ := h
  refine EvX.callV (c := 8) (mc := 0) (ms := 0) (as := [(0, 1)]) (st := []) (by decide +kernel) l_Mo_167 k_Mo_answers v_Mo_answers a_Mo_answers (by decide) (Nat.le_of_ble_eq_true rfl) rfl ov hq (fun r kd1 m9 hr => ?_)
  obtain ⟨x8, rfl, hk, hr⟩ := hr
  subst kd1
  have h := h x8 m9 hr
  show Ev (d + 1) M_Mo_laysWon 0 0 17 [(2, v0), (0, v1), (0, iw (x2 * x5)), zJ, zJ, zJ, zJ, zJ] [(0, x8)] kd m9 (zqV kd q)
  refine EvX.blk (pc' := 19) [(.aload_n 0, 0, 0), (.iconst 1, 0, 0)] (by decide +kernel) trivial ?_
  show Ev (d + 1) M_Mo_laysWon 0 0 19 [(2, v0), (0, v1), (0, iw (x2 * x5)), zJ, zJ, zJ, zJ, zJ] [(0, 1), (2, v0), (0, x8)] kd m9 (zqV kd q)
  obtain ⟨ov, h⟩ := h
  obtain ⟨q10, hq, h⟩ := h
  refine EvX.callV (c := 8) (mc := 0) (ms := 0) (as := [(0, 1)]) (st := [(0, x8)]) (by decide +kernel) l_Mo_167 k_Mo_answers v_Mo_answers a_Mo_answers (by decide) (Nat.le_of_ble_eq_true rfl) rfl ov hq (fun r kd1 m12 hr => ?_)
  obtain ⟨x11, rfl, hk, hr⟩ := hr
  subst kd1
  have h := h x11 m12 hr
  show Ev (d + 1) M_Mo_laysWon 0 0 22 [(2, v0), (0, v1), (0, iw (x2 * x5)), zJ, zJ, zJ, zJ, zJ] [(0, x11), (0, x8)] kd m12 (zqV kd q)
  refine EvX.blk (pc' := 27) [(.imul, 0, 0), (.istore_n 3, 0, 0), (.iconst 0, 0, 0), (.istore 4, 0, 0)] (by decide +kernel) trivial ?_
  show Ev (d + 1) M_Mo_laysWon 0 0 27 [(2, v0), (0, v1), (0, iw (x2 * x5)), (0, iw (x8 * x11)), (0, 0), zJ, zJ, zJ] [] kd m12 (zqV kd q)
  exact h
theorem S_Mo_laysWon {d : Nat} {kd : ZK} {m : ZM} {q : ZM → Prop} {v0 v1 : Int} (h : (zobj kd v0 8 ∧ ∃ q1, CtI d M_Mo_answers [(2, v0), (0, 0)] kd m q1 ∧ ∀ x2 m3, q1 x2 m3 → (zobj kd v0 8 ∧ ∃ q4, CtI d M_Mo_answers [(2, v0), (0, 0)] kd m3 q4 ∧ ∀ x5 m6, q4 x5 m6 → (zobj kd v0 8 ∧ ∃ q7, CtI d M_Mo_answers [(2, v0), (0, 1)] kd m6 q7 ∧ ∀ x8 m9, q7 x8 m9 → (zobj kd v0 8 ∧ ∃ q10, CtI d M_Mo_answers [(2, v0), (0, 1)] kd m9 q10 ∧ ∀ x11 m12, q10 x11 m12 → (Ev (d + 1) M_Mo_laysWon 0 0 27 [(2, v0), (0, v1), (0, iw (x2 * x5)), (0, iw (x8 * x11)), (0, 0), zJ, zJ, zJ] [] kd m12 (zqV kd q))))))) : CtV (d + 1) M_Mo_laysWon [(2, v0), (0, v1)] kd m q :=
  Ct.start k_Mo_laysWon (Nat.le_of_ble_eq_true rfl) ⟨0, Or.inl ⟨rfl, rfl⟩⟩ (T_Mo_laysWon_0 h)
set_option maxRecDepth 20000 in
set_option maxHeartbeats 1000000 in
theorem T_Mo_laysWon_27 {d : Nat} {kd : ZK} {m : ZM} {q : ZM → Prop} {v0 v1 v2 v3 v4 : Int} (h : (zobj kd v0 8 ∧ ∃ q1, CtI d M_Mo_questions [(2, v0), (0, 0)] kd m q1 ∧ ∀ x2 m3, q1 x2 m3 → (zobj kd v0 8 ∧ ∃ q4, CtI d M_Mo_questions [(2, v0), (0, 0)] kd m3 q4 ∧ ∀ x5 m6, q4 x5 m6 → (((iw (x2 * x5)) ≤ v4 → q m6) ∧ (¬ (iw (x2 * x5)) ≤ v4 → (Ev (d + 1) M_Mo_laysWon 0 0 46 [(2, v0), (0, v1), (0, v2), (0, v3), (0, v4), (0, 0), zJ, zJ] [] kd m6 (zqV kd q))))))) : Ev (d + 1) M_Mo_laysWon 0 0 27 [(2, v0), (0, v1), (0, v2), (0, v3), (0, v4), zJ, zJ, zJ] [] kd m (zqV kd q) := by
  refine EvX.blk (pc' := 31) [(.iload 4, 0, 0), (.aload_n 0, 0, 0), (.iconst 0, 0, 0)] (by decide +kernel) trivial ?_
  show Ev (d + 1) M_Mo_laysWon 0 0 31 [(2, v0), (0, v1), (0, v2), (0, v3), (0, v4), zJ, zJ, zJ] [(0, 0), (2, v0), (0, v4)] kd m (zqV kd q)
  obtain ⟨ov, h⟩ := h
  obtain ⟨q1, hq, h⟩ := h
  refine EvX.callV (c := 8) (mc := 0) (ms := 0) (as := [(0, 0)]) (st := [(0, v4)]) (by decide +kernel) l_Mo_163 k_Mo_questions v_Mo_questions a_Mo_questions (by decide) (Nat.le_of_ble_eq_true rfl) rfl ov hq (fun r kd1 m3 hr => ?_)
  obtain ⟨x2, rfl, hk, hr⟩ := hr
  subst kd1
  have h := h x2 m3 hr
  show Ev (d + 1) M_Mo_laysWon 0 0 34 [(2, v0), (0, v1), (0, v2), (0, v3), (0, v4), zJ, zJ, zJ] [(0, x2), (0, v4)] kd m3 (zqV kd q)
  refine EvX.blk (pc' := 36) [(.aload_n 0, 0, 0), (.iconst 0, 0, 0)] (by decide +kernel) trivial ?_
  show Ev (d + 1) M_Mo_laysWon 0 0 36 [(2, v0), (0, v1), (0, v2), (0, v3), (0, v4), zJ, zJ, zJ] [(0, 0), (2, v0), (0, x2), (0, v4)] kd m3 (zqV kd q)
  obtain ⟨ov, h⟩ := h
  obtain ⟨q4, hq, h⟩ := h
  refine EvX.callV (c := 8) (mc := 0) (ms := 0) (as := [(0, 0)]) (st := [(0, x2), (0, v4)]) (by decide +kernel) l_Mo_163 k_Mo_questions v_Mo_questions a_Mo_questions (by decide) (Nat.le_of_ble_eq_true rfl) rfl ov hq (fun r kd1 m6 hr => ?_)
  obtain ⟨x5, rfl, hk, hr⟩ := hr
  subst kd1
  have h := h x5 m6 hr
  show Ev (d + 1) M_Mo_laysWon 0 0 39 [(2, v0), (0, v1), (0, v2), (0, v3), (0, v4), zJ, zJ, zJ] [(0, x5), (0, x2), (0, v4)] kd m6 (zqV kd q)
  refine EvX.blk (pc' := 40) [(.imul, 0, 0)] (by decide +kernel) trivial ?_
  show Ev (d + 1) M_Mo_laysWon 0 0 40 [(2, v0), (0, v1), (0, v2), (0, v3), (0, v4), zJ, zJ, zJ] [(0, iw (x2 * x5)), (0, v4)] kd m6 (zqV kd q)
  refine EvX.icmp_ge (off := 93) (tgt := 133) (by decide +kernel) (by decide) (fun hc => ?_) (fun hc => ?_)
  · have h := h.1 hc
    exact EvX.ret (r := zJ) (by decide +kernel) rfl ⟨rfl, rfl, h⟩
  · have h := h.2 hc
    refine EvX.blk (pc' := 46) [(.iconst 0, 0, 0), (.istore 5, 0, 0)] (by decide +kernel) trivial ?_
    show Ev (d + 1) M_Mo_laysWon 0 0 46 [(2, v0), (0, v1), (0, v2), (0, v3), (0, v4), (0, 0), zJ, zJ] [] kd m6 (zqV kd q)
    exact h
set_option maxRecDepth 20000 in
set_option maxHeartbeats 1000000 in
theorem T_Mo_laysWon_46 {d : Nat} {kd : ZK} {m : ZM} {q : ZM → Prop} {v0 v1 v2 v3 v4 v5 : Int} (h : ((v2 ≤ v5 → (Ev (d + 1) M_Mo_laysWon 0 0 27 [(2, v0), (0, v1), (0, v2), (0, v3), (0, iw (v4 + 1)), zJ, zJ, zJ] [] kd m (zqV kd q))) ∧ (¬ v2 ≤ v5 → (Ev (d + 1) M_Mo_laysWon 0 0 55 [(2, v0), (0, v1), (0, v2), (0, v3), (0, v4), (0, v5), (0, 0), zJ] [] kd m (zqV kd q))))) : Ev (d + 1) M_Mo_laysWon 0 0 46 [(2, v0), (0, v1), (0, v2), (0, v3), (0, v4), (0, v5), zJ, zJ] [] kd m (zqV kd q) := by
  refine EvX.blk (pc' := 49) [(.iload 5, 0, 0), (.iload_n 2, 0, 0)] (by decide +kernel) trivial ?_
  show Ev (d + 1) M_Mo_laysWon 0 0 49 [(2, v0), (0, v1), (0, v2), (0, v3), (0, v4), (0, v5), zJ, zJ] [(0, v2), (0, v5)] kd m (zqV kd q)
  refine EvX.icmp_ge (off := 78) (tgt := 127) (by decide +kernel) (by decide) (fun hc => ?_) (fun hc => ?_)
  · have h := h.1 hc
    refine EvX.blk (pc' := 130) [(.iinc 4 1, 0, 0)] (by decide +kernel) trivial ?_
    show Ev (d + 1) M_Mo_laysWon 0 0 130 [(2, v0), (0, v1), (0, v2), (0, v3), (0, iw (v4 + 1)), (0, v5), zJ, zJ] [] kd m (zqV kd q)
    refine EvX.goto (off := (-103)) (tgt := 27) (by decide +kernel) (by decide) ?_
    exact EvX.weak (ls2 := [(2, v0), (0, v1), (0, v2), (0, v3), (0, iw (v4 + 1)), zJ, zJ, zJ]) (zwk_of ⟨Or.inr rfl, Or.inr rfl, Or.inr rfl, Or.inr rfl, Or.inr rfl, Or.inl rfl, Or.inl rfl, Or.inl rfl, trivial⟩) h
  · have h := h.2 hc
    refine EvX.blk (pc' := 55) [(.iconst 0, 0, 0), (.istore 6, 0, 0)] (by decide +kernel) trivial ?_
    show Ev (d + 1) M_Mo_laysWon 0 0 55 [(2, v0), (0, v1), (0, v2), (0, v3), (0, v4), (0, v5), (0, 0), zJ] [] kd m (zqV kd q)
    exact h
set_option maxRecDepth 20000 in
set_option maxHeartbeats 1000000 in
theorem T_Mo_laysWon_55 {d : Nat} {kd : ZK} {m : ZM} {q : ZM → Prop} {v0 v1 v2 v3 v4 v5 v6 : Int} (h : (zobj kd v0 8 ∧ ∃ q1, CtI d M_Mo_questions [(2, v0), (0, 1)] kd m q1 ∧ ∀ x2 m3, q1 x2 m3 → (zobj kd v0 8 ∧ ∃ q4, CtI d M_Mo_questions [(2, v0), (0, 1)] kd m3 q4 ∧ ∀ x5 m6, q4 x5 m6 → (((iw (x2 * x5)) ≤ v6 → (Ev (d + 1) M_Mo_laysWon 0 0 46 [(2, v0), (0, v1), (0, v2), (0, v3), (0, v4), (0, iw (v5 + 1)), zJ, zJ] [] kd m6 (zqV kd q))) ∧ (¬ (iw (x2 * x5)) ≤ v6 → (Ev (d + 1) M_Mo_laysWon 0 0 74 [(2, v0), (0, v1), (0, v2), (0, v3), (0, v4), (0, v5), (0, v6), (0, 0)] [] kd m6 (zqV kd q))))))) : Ev (d + 1) M_Mo_laysWon 0 0 55 [(2, v0), (0, v1), (0, v2), (0, v3), (0, v4), (0, v5), (0, v6), zJ] [] kd m (zqV kd q) := by
  refine EvX.blk (pc' := 59) [(.iload 6, 0, 0), (.aload_n 0, 0, 0), (.iconst 1, 0, 0)] (by decide +kernel) trivial ?_
  show Ev (d + 1) M_Mo_laysWon 0 0 59 [(2, v0), (0, v1), (0, v2), (0, v3), (0, v4), (0, v5), (0, v6), zJ] [(0, 1), (2, v0), (0, v6)] kd m (zqV kd q)
  obtain ⟨ov, h⟩ := h
  obtain ⟨q1, hq, h⟩ := h
  refine EvX.callV (c := 8) (mc := 0) (ms := 0) (as := [(0, 1)]) (st := [(0, v6)]) (by decide +kernel) l_Mo_163 k_Mo_questions v_Mo_questions a_Mo_questions (by decide) (Nat.le_of_ble_eq_true rfl) rfl ov hq (fun r kd1 m3 hr => ?_)
  obtain ⟨x2, rfl, hk, hr⟩ := hr
  subst kd1
  have h := h x2 m3 hr
  show Ev (d + 1) M_Mo_laysWon 0 0 62 [(2, v0), (0, v1), (0, v2), (0, v3), (0, v4), (0, v5), (0, v6), zJ] [(0, x2), (0, v6)] kd m3 (zqV kd q)
  refine EvX.blk (pc' := 64) [(.aload_n 0, 0, 0), (.iconst 1, 0, 0)] (by decide +kernel) trivial ?_
  show Ev (d + 1) M_Mo_laysWon 0 0 64 [(2, v0), (0, v1), (0, v2), (0, v3), (0, v4), (0, v5), (0, v6), zJ] [(0, 1), (2, v0), (0, x2), (0, v6)] kd m3 (zqV kd q)
  obtain ⟨ov, h⟩ := h
  obtain ⟨q4, hq, h⟩ := h
  refine EvX.callV (c := 8) (mc := 0) (ms := 0) (as := [(0, 1)]) (st := [(0, x2), (0, v6)]) (by decide +kernel) l_Mo_163 k_Mo_questions v_Mo_questions a_Mo_questions (by decide) (Nat.le_of_ble_eq_true rfl) rfl ov hq (fun r kd1 m6 hr => ?_)
  obtain ⟨x5, rfl, hk, hr⟩ := hr
  subst kd1
  have h := h x5 m6 hr
  show Ev (d + 1) M_Mo_laysWon 0 0 67 [(2, v0), (0, v1), (0, v2), (0, v3), (0, v4), (0, v5), (0, v6), zJ] [(0, x5), (0, x2), (0, v6)] kd m6 (zqV kd q)
  refine EvX.blk (pc' := 68) [(.imul, 0, 0)] (by decide +kernel) trivial ?_
  show Ev (d + 1) M_Mo_laysWon 0 0 68 [(2, v0), (0, v1), (0, v2), (0, v3), (0, v4), (0, v5), (0, v6), zJ] [(0, iw (x2 * x5)), (0, v6)] kd m6 (zqV kd q)
  refine EvX.icmp_ge (off := 53) (tgt := 121) (by decide +kernel) (by decide) (fun hc => ?_) (fun hc => ?_)
  · have h := h.1 hc
    refine EvX.blk (pc' := 124) [(.iinc 5 1, 0, 0)] (by decide +kernel) trivial ?_
    show Ev (d + 1) M_Mo_laysWon 0 0 124 [(2, v0), (0, v1), (0, v2), (0, v3), (0, v4), (0, iw (v5 + 1)), (0, v6), zJ] [] kd m6 (zqV kd q)
    refine EvX.goto (off := (-78)) (tgt := 46) (by decide +kernel) (by decide) ?_
    exact EvX.weak (ls2 := [(2, v0), (0, v1), (0, v2), (0, v3), (0, v4), (0, iw (v5 + 1)), zJ, zJ]) (zwk_of ⟨Or.inr rfl, Or.inr rfl, Or.inr rfl, Or.inr rfl, Or.inr rfl, Or.inr rfl, Or.inl rfl, Or.inl rfl, trivial⟩) h
  · have h := h.2 hc
    refine EvX.blk (pc' := 74) [(.iconst 0, 0, 0), (.istore 7, 0, 0)] (by decide +kernel) trivial ?_
    show Ev (d + 1) M_Mo_laysWon 0 0 74 [(2, v0), (0, v1), (0, v2), (0, v3), (0, v4), (0, v5), (0, v6), (0, 0)] [] kd m6 (zqV kd q)
    exact h
set_option maxRecDepth 20000 in
set_option maxHeartbeats 1000000 in
theorem T_Mo_laysWon_74 {d : Nat} {kd : ZK} {m : ZM} {q : ZM → Prop} {v0 v1 v2 v3 v4 v5 v6 v7 : Int} (h : ((v3 ≤ v7 → (Ev (d + 1) M_Mo_laysWon 0 0 55 [(2, v0), (0, v1), (0, v2), (0, v3), (0, v4), (0, v5), (0, iw (v6 + 1)), zJ] [] kd m (zqV kd q))) ∧ (¬ v3 ≤ v7 → (zobj kd v0 8 ∧ (∃ q1, CtI d M_Mo_wonPlace [(0, v4), (0, v5), (0, v6), (0, v7)] kd m q1 ∧ ∀ x2 m3, q1 x2 m3 → (zobj kd v0 8 ∧ ∃ q4, CtI d M_Mo_wonAt [(2, v0), (0, v4), (0, v5), (0, v6), (0, v7), (0, v1)] kd m3 q4 ∧ ∀ x5 m6, q4 x5 m6 → (zIn kd (m v0 18) 0 x2 ∧ (Ev (d + 1) M_Mo_laysWon 0 0 74 [(2, v0), (0, v1), (0, v2), (0, v3), (0, v4), (0, v5), (0, v6), (0, iw (v7 + 1))] [] kd (zup m6 (m v0 18) x2 x5) (zqV kd q))))))))) : Ev (d + 1) M_Mo_laysWon 0 0 74 [(2, v0), (0, v1), (0, v2), (0, v3), (0, v4), (0, v5), (0, v6), (0, v7)] [] kd m (zqV kd q) := by
  refine EvX.blk (pc' := 77) [(.iload 7, 0, 0), (.iload_n 3, 0, 0)] (by decide +kernel) trivial ?_
  show Ev (d + 1) M_Mo_laysWon 0 0 77 [(2, v0), (0, v1), (0, v2), (0, v3), (0, v4), (0, v5), (0, v6), (0, v7)] [(0, v3), (0, v7)] kd m (zqV kd q)
  refine EvX.icmp_ge (off := 38) (tgt := 115) (by decide +kernel) (by decide) (fun hc => ?_) (fun hc => ?_)
  · have h := h.1 hc
    refine EvX.blk (pc' := 118) [(.iinc 6 1, 0, 0)] (by decide +kernel) trivial ?_
    show Ev (d + 1) M_Mo_laysWon 0 0 118 [(2, v0), (0, v1), (0, v2), (0, v3), (0, v4), (0, v5), (0, iw (v6 + 1)), (0, v7)] [] kd m (zqV kd q)
    refine EvX.goto (off := (-63)) (tgt := 55) (by decide +kernel) (by decide) ?_
    exact EvX.weak (ls2 := [(2, v0), (0, v1), (0, v2), (0, v3), (0, v4), (0, v5), (0, iw (v6 + 1)), zJ]) (zwk_of ⟨Or.inr rfl, Or.inr rfl, Or.inr rfl, Or.inr rfl, Or.inr rfl, Or.inr rfl, Or.inr rfl, Or.inl rfl, trivial⟩) h
  · have h := h.2 hc
    obtain ⟨o1, h⟩ := h
    refine EvX.blk (pc' := 92) [(.aload_n 0, 0, 0), (.getfield 45, 8, 18), (.iload 4, 0, 0), (.iload 5, 0, 0), (.iload 6, 0, 0), (.iload 7, 0, 0)] (by decide +kernel) ⟨g_Mo_45, trivial⟩ ⟨o1, ?_⟩
    show Ev (d + 1) M_Mo_laysWon 0 0 92 [(2, v0), (0, v1), (0, v2), (0, v3), (0, v4), (0, v5), (0, v6), (0, v7)] [(0, v7), (0, v6), (0, v5), (0, v4), (2, m v0 18)] kd m (zqV kd q)
    obtain ⟨q1, hq, h⟩ := h
    refine EvX.callS (mc := 0) (ms := 0) (as := [(0, v4), (0, v5), (0, v6), (0, v7)]) (st := [(2, m v0 18)]) (by decide +kernel) l_Mo_340 k_Mo_wonPlace s_Mo_wonPlace a_Mo_wonPlace (by decide) (Nat.le_of_ble_eq_true rfl) hq (fun r kd1 m3 hr => ?_)
    obtain ⟨x2, rfl, hk, hr⟩ := hr
    subst kd1
    have h := h x2 m3 hr
    show Ev (d + 1) M_Mo_laysWon 0 0 95 [(2, v0), (0, v1), (0, v2), (0, v3), (0, v4), (0, v5), (0, v6), (0, v7)] [(0, x2), (2, m v0 18)] kd m3 (zqV kd q)
    refine EvX.blk (pc' := 105) [(.aload_n 0, 0, 0), (.iload 4, 0, 0), (.iload 5, 0, 0), (.iload 6, 0, 0), (.iload 7, 0, 0), (.iload_n 1, 0, 0)] (by decide +kernel) trivial ?_
    show Ev (d + 1) M_Mo_laysWon 0 0 105 [(2, v0), (0, v1), (0, v2), (0, v3), (0, v4), (0, v5), (0, v6), (0, v7)] [(0, v1), (0, v7), (0, v6), (0, v5), (0, v4), (2, v0), (0, x2), (2, m v0 18)] kd m3 (zqV kd q)
    obtain ⟨ov, h⟩ := h
    obtain ⟨q4, hq, h⟩ := h
    refine EvX.callV (c := 8) (mc := 0) (ms := 0) (as := [(0, v4), (0, v5), (0, v6), (0, v7), (0, v1)]) (st := [(0, x2), (2, m v0 18)]) (by decide +kernel) l_Mo_343 k_Mo_wonAt v_Mo_wonAt a_Mo_wonAt (by decide) (Nat.le_of_ble_eq_true rfl) rfl ov hq (fun r kd1 m6 hr => ?_)
    obtain ⟨x5, rfl, hk, hr⟩ := hr
    subst kd1
    have h := h x5 m6 hr
    show Ev (d + 1) M_Mo_laysWon 0 0 108 [(2, v0), (0, v1), (0, v2), (0, v3), (0, v4), (0, v5), (0, v6), (0, v7)] [(0, x5), (0, x2), (2, m v0 18)] kd m6 (zqV kd q)
    obtain ⟨o1, h⟩ := h
    refine EvX.blk (pc' := 112) [(.iastore, 0, 0), (.iinc 7 1, 0, 0)] (by decide +kernel) trivial ⟨o1, ?_⟩
    show Ev (d + 1) M_Mo_laysWon 0 0 112 [(2, v0), (0, v1), (0, v2), (0, v3), (0, v4), (0, v5), (0, v6), (0, iw (v7 + 1))] [] kd (zup m6 (m v0 18) x2 x5) (zqV kd q)
    refine EvX.goto (off := (-38)) (tgt := 74) (by decide +kernel) (by decide) ?_
    exact h
set_option maxRecDepth 20000 in
set_option maxHeartbeats 1000000 in
theorem T_Mo_pairWorth_0 {d : Nat} {kd : ZK} {m : ZM} {q : Int → ZM → Prop} {v0 : Int} (h : (zobj kd v0 8 ∧ ∃ q1, CtI d M_Mo_answers [(2, v0), (0, 1)] kd m q1 ∧ ∀ x2 m3, q1 x2 m3 → (zobj kd v0 8 ∧ ∃ q4, CtI d M_Mo_answers [(2, v0), (0, 1)] kd m3 q4 ∧ ∀ x5 m6, q4 x5 m6 → (zobj kd v0 8 ∧ ∃ q7, CtI d M_Mo_questions [(2, v0), (0, 0)] kd m6 q7 ∧ ∀ x8 m9, q7 x8 m9 → (zobj kd v0 8 ∧ ∃ q10, CtI d M_Mo_questions [(2, v0), (0, 0)] kd m9 q10 ∧ ∀ x11 m12, q10 x11 m12 → (Ev (d + 1) M_Mo_pairWorth 0 0 29 [(2, v0), (0, iw (x2 * x5)), (0, iw (x8 * x11)), (0, 0), (0, 0), zJ, zJ, zJ, zJ] [] kd m12 (zqI kd q))))))) : Ev (d + 1) M_Mo_pairWorth 0 0 0 [(2, v0), zJ, zJ, zJ, zJ, zJ, zJ, zJ, zJ] [] kd m (zqI kd q) := by
  refine EvX.blk (pc' := 2) [(.aload_n 0, 0, 0), (.iconst 1, 0, 0)] (by decide +kernel) trivial ?_
  show Ev (d + 1) M_Mo_pairWorth 0 0 2 [(2, v0), zJ, zJ, zJ, zJ, zJ, zJ, zJ, zJ] [(0, 1), (2, v0)] kd m (zqI kd q)
  obtain ⟨ov, h⟩ := h
  obtain ⟨q1, hq, h⟩ := h
  refine EvX.callV (c := 8) (mc := 0) (ms := 0) (as := [(0, 1)]) (st := []) (by decide +kernel) l_Mo_167 k_Mo_answers v_Mo_answers a_Mo_answers (by decide) (Nat.le_of_ble_eq_true rfl) rfl ov hq (fun r kd1 m3 hr => ?_)
  obtain ⟨x2, rfl, hk, hr⟩ := hr
  subst kd1
  have h := h x2 m3 hr
  show Ev (d + 1) M_Mo_pairWorth 0 0 5 [(2, v0), zJ, zJ, zJ, zJ, zJ, zJ, zJ, zJ] [(0, x2)] kd m3 (zqI kd q)
  refine EvX.blk (pc' := 7) [(.aload_n 0, 0, 0), (.iconst 1, 0, 0)] (by decide +kernel) trivial ?_
  show Ev (d + 1) M_Mo_pairWorth 0 0 7 [(2, v0), zJ, zJ, zJ, zJ, zJ, zJ, zJ, zJ] [(0, 1), (2, v0), (0, x2)] kd m3 (zqI kd q)
  obtain ⟨ov, h⟩ := h
  obtain ⟨q4, hq, h⟩ := h
  refine EvX.callV (c := 8) (mc := 0) (ms := 0) (as := [(0, 1)]) (st := [(0, x2)]) (by decide +kernel) l_Mo_167 k_Mo_answers v_Mo_answers a_Mo_answers (by decide) (Nat.le_of_ble_eq_true rfl) rfl ov hq (fun r kd1 m6 hr => ?_)
  obtain ⟨x5, rfl, hk, hr⟩ := hr
  subst kd1
  have h := h x5 m6 hr
  show Ev (d + 1) M_Mo_pairWorth 0 0 10 [(2, v0), zJ, zJ, zJ, zJ, zJ, zJ, zJ, zJ] [(0, x5), (0, x2)] kd m6 (zqI kd q)
  refine EvX.blk (pc' := 14) [(.imul, 0, 0), (.istore_n 1, 0, 0), (.aload_n 0, 0, 0), (.iconst 0, 0, 0)] (by decide +kernel) trivial ?_
  show Ev (d + 1) M_Mo_pairWorth 0 0 14 [(2, v0), (0, iw (x2 * x5)), zJ, zJ, zJ, zJ, zJ, zJ, zJ] [(0, 0), (2, v0)] kd m6 (zqI kd q)
  obtain ⟨ov, h⟩ := h
  obtain ⟨q7, hq, h⟩ := h
  refine EvX.callV (c := 8) (mc := 0) (ms := 0) (as := [(0, 0)]) (st := []) (by decide +kernel) l_Mo_163 k_Mo_questions v_Mo_questions a_Mo_questions (by decide) (Nat.le_of_ble_eq_true rfl) rfl ov hq (fun r kd1 m9 hr => ?_)
  obtain ⟨x8, rfl, hk, hr⟩ := hr
  subst kd1
  have h := h x8 m9 hr
  show Ev (d + 1) M_Mo_pairWorth 0 0 17 [(2, v0), (0, iw (x2 * x5)), zJ, zJ, zJ, zJ, zJ, zJ, zJ] [(0, x8)] kd m9 (zqI kd q)
  refine EvX.blk (pc' := 19) [(.aload_n 0, 0, 0), (.iconst 0, 0, 0)] (by decide +kernel) trivial ?_
  show Ev (d + 1) M_Mo_pairWorth 0 0 19 [(2, v0), (0, iw (x2 * x5)), zJ, zJ, zJ, zJ, zJ, zJ, zJ] [(0, 0), (2, v0), (0, x8)] kd m9 (zqI kd q)
  obtain ⟨ov, h⟩ := h
  obtain ⟨q10, hq, h⟩ := h
  refine EvX.callV (c := 8) (mc := 0) (ms := 0) (as := [(0, 0)]) (st := [(0, x8)]) (by decide +kernel) l_Mo_163 k_Mo_questions v_Mo_questions a_Mo_questions (by decide) (Nat.le_of_ble_eq_true rfl) rfl ov hq (fun r kd1 m12 hr => ?_)
  obtain ⟨x11, rfl, hk, hr⟩ := hr
  subst kd1
  have h := h x11 m12 hr
  show Ev (d + 1) M_Mo_pairWorth 0 0 22 [(2, v0), (0, iw (x2 * x5)), zJ, zJ, zJ, zJ, zJ, zJ, zJ] [(0, x11), (0, x8)] kd m12 (zqI kd q)
  refine EvX.blk (pc' := 29) [(.imul, 0, 0), (.istore_n 2, 0, 0), (.iconst 0, 0, 0), (.istore_n 3, 0, 0), (.iconst 0, 0, 0), (.istore 4, 0, 0)] (by decide +kernel) trivial ?_
  show Ev (d + 1) M_Mo_pairWorth 0 0 29 [(2, v0), (0, iw (x2 * x5)), (0, iw (x8 * x11)), (0, 0), (0, 0), zJ, zJ, zJ, zJ] [] kd m12 (zqI kd q)
  exact h
theorem S_Mo_pairWorth {d : Nat} {kd : ZK} {m : ZM} {q : Int → ZM → Prop} {v0 : Int} (h : (zobj kd v0 8 ∧ ∃ q1, CtI d M_Mo_answers [(2, v0), (0, 1)] kd m q1 ∧ ∀ x2 m3, q1 x2 m3 → (zobj kd v0 8 ∧ ∃ q4, CtI d M_Mo_answers [(2, v0), (0, 1)] kd m3 q4 ∧ ∀ x5 m6, q4 x5 m6 → (zobj kd v0 8 ∧ ∃ q7, CtI d M_Mo_questions [(2, v0), (0, 0)] kd m6 q7 ∧ ∀ x8 m9, q7 x8 m9 → (zobj kd v0 8 ∧ ∃ q10, CtI d M_Mo_questions [(2, v0), (0, 0)] kd m9 q10 ∧ ∀ x11 m12, q10 x11 m12 → (Ev (d + 1) M_Mo_pairWorth 0 0 29 [(2, v0), (0, iw (x2 * x5)), (0, iw (x8 * x11)), (0, 0), (0, 0), zJ, zJ, zJ, zJ] [] kd m12 (zqI kd q))))))) : CtI (d + 1) M_Mo_pairWorth [(2, v0)] kd m q :=
  Ct.start k_Mo_pairWorth (Nat.le_of_ble_eq_true rfl) ⟨1, Or.inr (Or.inl ⟨rfl, rfl⟩)⟩ (T_Mo_pairWorth_0 h)
set_option maxRecDepth 20000 in
set_option maxHeartbeats 1000000 in
theorem T_Mo_pairWorth_29 {d : Nat} {kd : ZK} {m : ZM} {q : Int → ZM → Prop} {v0 v1 v2 v3 v4 : Int} (h : (zobj kd v0 8 ∧ ∃ q1, CtI d M_Mo_questions [(2, v0), (0, 1)] kd m q1 ∧ ∀ x2 m3, q1 x2 m3 → (zobj kd v0 8 ∧ ∃ q4, CtI d M_Mo_questions [(2, v0), (0, 1)] kd m3 q4 ∧ ∀ x5 m6, q4 x5 m6 → (((iw (x2 * x5)) ≤ v4 → q v3 m6) ∧ (¬ (iw (x2 * x5)) ≤ v4 → (Ev (d + 1) M_Mo_pairWorth 0 0 51 [(2, v0), (0, v1), (0, v2), (0, v3), (0, v4), (0, 0), (0, 0), zJ, zJ] [] kd m6 (zqI kd q))))))) : Ev (d + 1) M_Mo_pairWorth 0 0 29 [(2, v0), (0, v1), (0, v2), (0, v3), (0, v4), zJ, zJ, zJ, zJ] [] kd m (zqI kd q) := by
  refine EvX.blk (pc' := 33) [(.iload 4, 0, 0), (.aload_n 0, 0, 0), (.iconst 1, 0, 0)] (by decide +kernel) trivial ?_
  show Ev (d + 1) M_Mo_pairWorth 0 0 33 [(2, v0), (0, v1), (0, v2), (0, v3), (0, v4), zJ, zJ, zJ, zJ] [(0, 1), (2, v0), (0, v4)] kd m (zqI kd q)
  obtain ⟨ov, h⟩ := h
  obtain ⟨q1, hq, h⟩ := h
  refine EvX.callV (c := 8) (mc := 0) (ms := 0) (as := [(0, 1)]) (st := [(0, v4)]) (by decide +kernel) l_Mo_163 k_Mo_questions v_Mo_questions a_Mo_questions (by decide) (Nat.le_of_ble_eq_true rfl) rfl ov hq (fun r kd1 m3 hr => ?_)
  obtain ⟨x2, rfl, hk, hr⟩ := hr
  subst kd1
  have h := h x2 m3 hr
  show Ev (d + 1) M_Mo_pairWorth 0 0 36 [(2, v0), (0, v1), (0, v2), (0, v3), (0, v4), zJ, zJ, zJ, zJ] [(0, x2), (0, v4)] kd m3 (zqI kd q)
  refine EvX.blk (pc' := 38) [(.aload_n 0, 0, 0), (.iconst 1, 0, 0)] (by decide +kernel) trivial ?_
  show Ev (d + 1) M_Mo_pairWorth 0 0 38 [(2, v0), (0, v1), (0, v2), (0, v3), (0, v4), zJ, zJ, zJ, zJ] [(0, 1), (2, v0), (0, x2), (0, v4)] kd m3 (zqI kd q)
  obtain ⟨ov, h⟩ := h
  obtain ⟨q4, hq, h⟩ := h
  refine EvX.callV (c := 8) (mc := 0) (ms := 0) (as := [(0, 1)]) (st := [(0, x2), (0, v4)]) (by decide +kernel) l_Mo_163 k_Mo_questions v_Mo_questions a_Mo_questions (by decide) (Nat.le_of_ble_eq_true rfl) rfl ov hq (fun r kd1 m6 hr => ?_)
  obtain ⟨x5, rfl, hk, hr⟩ := hr
  subst kd1
  have h := h x5 m6 hr
  show Ev (d + 1) M_Mo_pairWorth 0 0 41 [(2, v0), (0, v1), (0, v2), (0, v3), (0, v4), zJ, zJ, zJ, zJ] [(0, x5), (0, x2), (0, v4)] kd m6 (zqI kd q)
  refine EvX.blk (pc' := 42) [(.imul, 0, 0)] (by decide +kernel) trivial ?_
  show Ev (d + 1) M_Mo_pairWorth 0 0 42 [(2, v0), (0, v1), (0, v2), (0, v3), (0, v4), zJ, zJ, zJ, zJ] [(0, iw (x2 * x5)), (0, v4)] kd m6 (zqI kd q)
  refine EvX.icmp_ge (off := 85) (tgt := 127) (by decide +kernel) (by decide) (fun hc => ?_) (fun hc => ?_)
  · have h := h.1 hc
    refine EvX.blk (pc' := 128) [(.iload_n 3, 0, 0)] (by decide +kernel) trivial ?_
    show Ev (d + 1) M_Mo_pairWorth 0 0 128 [(2, v0), (0, v1), (0, v2), (0, v3), (0, v4), zJ, zJ, zJ, zJ] [(0, v3)] kd m6 (zqI kd q)
    exact EvX.ret (r := (0, v3)) (by decide +kernel) rfl ⟨_, rfl, rfl, h⟩
  · have h := h.2 hc
    refine EvX.blk (pc' := 51) [(.iconst 0, 0, 0), (.istore 5, 0, 0), (.iconst 0, 0, 0), (.istore 6, 0, 0)] (by decide +kernel) trivial ?_
    show Ev (d + 1) M_Mo_pairWorth 0 0 51 [(2, v0), (0, v1), (0, v2), (0, v3), (0, v4), (0, 0), (0, 0), zJ, zJ] [] kd m6 (zqI kd q)
    exact h
set_option maxRecDepth 20000 in
set_option maxHeartbeats 1000000 in
theorem T_Mo_pairWorth_51 {d : Nat} {kd : ZK} {m : ZM} {q : Int → ZM → Prop} {v0 v1 v2 v3 v4 v5 v6 : Int} (h : ((v1 ≤ v6 → (Ev (d + 1) M_Mo_pairWorth 0 0 29 [(2, v0), (0, v1), (0, v2), (0, iw (v3 + v5)), (0, iw (v4 + 1)), zJ, zJ, zJ, zJ] [] kd m (zqI kd q))) ∧ (¬ v1 ≤ v6 → (Ev (d + 1) M_Mo_pairWorth 0 0 63 [(2, v0), (0, v1), (0, v2), (0, v3), (0, v4), (0, v5), (0, v6), (0, 0), (0, 0)] [] kd m (zqI kd q))))) : Ev (d + 1) M_Mo_pairWorth 0 0 51 [(2, v0), (0, v1), (0, v2), (0, v3), (0, v4), (0, v5), (0, v6), zJ, zJ] [] kd m (zqI kd q) := by
  refine EvX.blk (pc' := 54) [(.iload 6, 0, 0), (.iload_n 1, 0, 0)] (by decide +kernel) trivial ?_
  show Ev (d + 1) M_Mo_pairWorth 0 0 54 [(2, v0), (0, v1), (0, v2), (0, v3), (0, v4), (0, v5), (0, v6), zJ, zJ] [(0, v1), (0, v6)] kd m (zqI kd q)
  refine EvX.icmp_ge (off := 62) (tgt := 116) (by decide +kernel) (by decide) (fun hc => ?_) (fun hc => ?_)
  · have h := h.1 hc
    refine EvX.blk (pc' := 124) [(.iload_n 3, 0, 0), (.iload 5, 0, 0), (.iadd, 0, 0), (.istore_n 3, 0, 0), (.iinc 4 1, 0, 0)] (by decide +kernel) trivial ?_
    show Ev (d + 1) M_Mo_pairWorth 0 0 124 [(2, v0), (0, v1), (0, v2), (0, iw (v3 + v5)), (0, iw (v4 + 1)), (0, v5), (0, v6), zJ, zJ] [] kd m (zqI kd q)
    refine EvX.goto (off := (-95)) (tgt := 29) (by decide +kernel) (by decide) ?_
    exact EvX.weak (ls2 := [(2, v0), (0, v1), (0, v2), (0, iw (v3 + v5)), (0, iw (v4 + 1)), zJ, zJ, zJ, zJ]) (zwk_of ⟨Or.inr rfl, Or.inr rfl, Or.inr rfl, Or.inr rfl, Or.inr rfl, Or.inl rfl, Or.inl rfl, Or.inl rfl, Or.inl rfl, trivial⟩) h
  · have h := h.2 hc
    refine EvX.blk (pc' := 63) [(.iconst 0, 0, 0), (.istore 7, 0, 0), (.iconst 0, 0, 0), (.istore 8, 0, 0)] (by decide +kernel) trivial ?_
    show Ev (d + 1) M_Mo_pairWorth 0 0 63 [(2, v0), (0, v1), (0, v2), (0, v3), (0, v4), (0, v5), (0, v6), (0, 0), (0, 0)] [] kd m (zqI kd q)
    exact h
set_option maxRecDepth 20000 in
set_option maxHeartbeats 1000000 in
theorem T_Mo_pairWorth_63 {d : Nat} {kd : ZK} {m : ZM} {q : Int → ZM → Prop} {v0 v1 v2 v3 v4 v5 v6 v7 v8 : Int} (h : ((v2 ≤ v8 → (Ev (d + 1) M_Mo_pairWorth 0 0 51 [(2, v0), (0, v1), (0, v2), (0, v3), (0, v4), (0, zmax v5 v7), (0, iw (v6 + 1)), zJ, zJ] [] kd m (zqI kd q))) ∧ (¬ v2 ≤ v8 → (zobj kd v0 8 ∧ zobj kd v0 8 ∧ zIn kd (m v0 19) 0 v8 ∧ (∃ q1, CtI d M_Mo_wonPlace [(0, v8), (0, m (m v0 19) v8), (0, v4), (0, v6)] kd m q1 ∧ ∀ x2 m3, q1 x2 m3 → (zIn kd (m v0 18) 0 x2 ∧ (Ev (d + 1) M_Mo_pairWorth 0 0 63 [(2, v0), (0, v1), (0, v2), (0, v3), (0, v4), (0, v5), (0, v6), (0, iw (v7 + (m3 (m v0 18) x2))), (0, iw (v8 + 1))] [] kd m3 (zqI kd q)))))))) : Ev (d + 1) M_Mo_pairWorth 0 0 63 [(2, v0), (0, v1), (0, v2), (0, v3), (0, v4), (0, v5), (0, v6), (0, v7), (0, v8)] [] kd m (zqI kd q) := by
  refine EvX.blk (pc' := 66) [(.iload 8, 0, 0), (.iload_n 2, 0, 0)] (by decide +kernel) trivial ?_
  show Ev (d + 1) M_Mo_pairWorth 0 0 66 [(2, v0), (0, v1), (0, v2), (0, v3), (0, v4), (0, v5), (0, v6), (0, v7), (0, v8)] [(0, v2), (0, v8)] kd m (zqI kd q)
  refine EvX.icmp_ge (off := 35) (tgt := 101) (by decide +kernel) (by decide) (fun hc => ?_) (fun hc => ?_)
  · have h := h.1 hc
    refine EvX.blk (pc' := 105) [(.iload 5, 0, 0), (.iload 7, 0, 0)] (by decide +kernel) trivial ?_
    show Ev (d + 1) M_Mo_pairWorth 0 0 105 [(2, v0), (0, v1), (0, v2), (0, v3), (0, v4), (0, v5), (0, v6), (0, v7), (0, v8)] [(0, v7), (0, v5)] kd m (zqI kd q)
    refine EvX.mmax' (by decide +kernel) y_Mo_253 (Nat.le_of_ble_eq_true rfl) ?_
    show Ev (d + 1) M_Mo_pairWorth 0 0 108 [(2, v0), (0, v1), (0, v2), (0, v3), (0, v4), (0, v5), (0, v6), (0, v7), (0, v8)] [(0, zmax v5 v7)] kd m (zqI kd q)
    refine EvX.blk (pc' := 113) [(.istore 5, 0, 0), (.iinc 6 1, 0, 0)] (by decide +kernel) trivial ?_
    show Ev (d + 1) M_Mo_pairWorth 0 0 113 [(2, v0), (0, v1), (0, v2), (0, v3), (0, v4), (0, zmax v5 v7), (0, iw (v6 + 1)), (0, v7), (0, v8)] [] kd m (zqI kd q)
    refine EvX.goto (off := (-62)) (tgt := 51) (by decide +kernel) (by decide) ?_
    exact EvX.weak (ls2 := [(2, v0), (0, v1), (0, v2), (0, v3), (0, v4), (0, zmax v5 v7), (0, iw (v6 + 1)), zJ, zJ]) (zwk_of ⟨Or.inr rfl, Or.inr rfl, Or.inr rfl, Or.inr rfl, Or.inr rfl, Or.inr rfl, Or.inr rfl, Or.inl rfl, Or.inl rfl, trivial⟩) h
  · have h := h.2 hc
    obtain ⟨o1, o2, o3, h⟩ := h
    refine EvX.blk (pc' := 88) [(.iload 7, 0, 0), (.aload_n 0, 0, 0), (.getfield 45, 8, 18), (.iload 8, 0, 0), (.aload_n 0, 0, 0), (.getfield 48, 8, 19), (.iload 8, 0, 0), (.iaload, 0, 0), (.iload 4, 0, 0), (.iload 6, 0, 0)] (by decide +kernel) ⟨g_Mo_45, g_Mo_48, trivial⟩ ⟨o1, o2, o3, ?_⟩
    show Ev (d + 1) M_Mo_pairWorth 0 0 88 [(2, v0), (0, v1), (0, v2), (0, v3), (0, v4), (0, v5), (0, v6), (0, v7), (0, v8)] [(0, v6), (0, v4), (0, m (m v0 19) v8), (0, v8), (2, m v0 18), (0, v7)] kd m (zqI kd q)
    obtain ⟨q1, hq, h⟩ := h
    refine EvX.callS (mc := 0) (ms := 0) (as := [(0, v8), (0, m (m v0 19) v8), (0, v4), (0, v6)]) (st := [(2, m v0 18), (0, v7)]) (by decide +kernel) l_Mo_340 k_Mo_wonPlace s_Mo_wonPlace a_Mo_wonPlace (by decide) (Nat.le_of_ble_eq_true rfl) hq (fun r kd1 m3 hr => ?_)
    obtain ⟨x2, rfl, hk, hr⟩ := hr
    subst kd1
    have h := h x2 m3 hr
    show Ev (d + 1) M_Mo_pairWorth 0 0 91 [(2, v0), (0, v1), (0, v2), (0, v3), (0, v4), (0, v5), (0, v6), (0, v7), (0, v8)] [(0, x2), (2, m v0 18), (0, v7)] kd m3 (zqI kd q)
    obtain ⟨o1, h⟩ := h
    refine EvX.blk (pc' := 98) [(.iaload, 0, 0), (.iadd, 0, 0), (.istore 7, 0, 0), (.iinc 8 1, 0, 0)] (by decide +kernel) trivial ⟨o1, ?_⟩
    show Ev (d + 1) M_Mo_pairWorth 0 0 98 [(2, v0), (0, v1), (0, v2), (0, v3), (0, v4), (0, v5), (0, v6), (0, iw (v7 + (m3 (m v0 18) x2))), (0, iw (v8 + 1))] [] kd m3 (zqI kd q)
    refine EvX.goto (off := (-35)) (tgt := 63) (by decide +kernel) (by decide) ?_
    exact h
set_option maxRecDepth 20000 in
set_option maxHeartbeats 1000000 in
theorem T_Mo_twice_0 {d : Nat} {kd : ZK} {m : ZM} {q : Int → ZM → Prop} {v0 v1 : Int} (h : (zobj kd v0 8 ∧ ∃ q1, CtI d M_Mo_hasGame [(2, v0)] kd m q1 ∧ ∀ x2 m3, q1 x2 m3 → ((x2 = 0 → q (-1) m3) ∧ (¬ x2 = 0 → (∃ q4, CtI d M_Mo_in [(1, v1), (1, 0), (1, 1)] kd m3 q4 ∧ ∀ x5 m6, q4 x5 m6 → ((x5 ≠ 0 → (zobj kd v0 8 ∧ ∃ q7, CtL d M_Mo_pairRows [(2, v0)] kd m6 q7 ∧ ∀ x8 m9, q7 x8 m9 → (((zcmp x8 70000) ≤ 0 → ((v1 ≠ 0 → (Ev (d + 1) M_Mo_twice 0 0 43 [(2, v0), zJ, zJ, zJ, zJ, zJ, zJ, zJ, zJ, zJ, zJ] [(0, 0), (2, v0)] kd m9 (zqI kd q))) ∧ (¬ v1 ≠ 0 → (Ev (d + 1) M_Mo_twice 0 0 43 [(2, v0), zJ, zJ, zJ, zJ, zJ, zJ, zJ, zJ, zJ, zJ] [(0, 1), (2, v0)] kd m9 (zqI kd q))))) ∧ (¬ (zcmp x8 70000) ≤ 0 → q (-2) m9)))) ∧ (¬ x5 ≠ 0 → q (-1) m6))))))) : Ev (d + 1) M_Mo_twice 0 0 0 [(2, v0), (0, v1), zJ, zJ, zJ, zJ, zJ, zJ, zJ, zJ, zJ] [] kd m (zqI kd q) := by
  refine EvX.blk (pc' := 1) [(.aload_n 0, 0, 0)] (by decide +kernel) trivial ?_
  show Ev (d + 1) M_Mo_twice 0 0 1 [(2, v0), (0, v1), zJ, zJ, zJ, zJ, zJ, zJ, zJ, zJ, zJ] [(2, v0)] kd m (zqI kd q)
  obtain ⟨ov, h⟩ := h
  obtain ⟨q1, hq, h⟩ := h
  refine EvX.callV (c := 8) (mc := 0) (ms := 0) (as := []) (st := []) (by decide +kernel) l_Mo_215 k_Mo_hasGame v_Mo_hasGame a_Mo_hasGame (by decide) (Nat.le_of_ble_eq_true rfl) rfl ov hq (fun r kd1 m3 hr => ?_)
  obtain ⟨x2, rfl, hk, hr⟩ := hr
  subst kd1
  have h := h x2 m3 hr
  show Ev (d + 1) M_Mo_twice 0 0 4 [(2, v0), (0, v1), zJ, zJ, zJ, zJ, zJ, zJ, zJ, zJ, zJ] [(0, x2)] kd m3 (zqI kd q)
  refine EvX.if_eq (off := 13) (tgt := 17) (by decide +kernel) (by decide) (fun hc => ?_) (fun hc => ?_)
  · have h := h.1 hc
    refine EvX.blk (pc' := 18) [(.iconst (-1), 0, 0)] (by decide +kernel) trivial ?_
    show Ev (d + 1) M_Mo_twice 0 0 18 [(2, v0), (0, v1), zJ, zJ, zJ, zJ, zJ, zJ, zJ, zJ, zJ] [(0, (-1))] kd m3 (zqI kd q)
    exact EvX.ret (r := (0, (-1))) (by decide +kernel) rfl ⟨_, rfl, rfl, h⟩
  · have h := h.2 hc
    refine EvX.blk (pc' := 11) [(.iload_n 1, 0, 0), (.i2l, 0, 0), (.lconst 0, 0, 0), (.lconst 1, 0, 0)] (by decide +kernel) trivial ?_
    show Ev (d + 1) M_Mo_twice 0 0 11 [(2, v0), (0, v1), zJ, zJ, zJ, zJ, zJ, zJ, zJ, zJ, zJ] [(1, 1), (1, 0), (1, v1)] kd m3 (zqI kd q)
    obtain ⟨q4, hq, h⟩ := h
    refine EvX.callS (mc := 0) (ms := 0) (as := [(1, v1), (1, 0), (1, 1)]) (st := []) (by decide +kernel) l_Mo_93 k_Mo_in s_Mo_in a_Mo_in (by decide) (Nat.le_of_ble_eq_true rfl) hq (fun r kd1 m6 hr => ?_)
    obtain ⟨x5, rfl, hk, hr⟩ := hr
    subst kd1
    have h := h x5 m6 hr
    show Ev (d + 1) M_Mo_twice 0 0 14 [(2, v0), (0, v1), zJ, zJ, zJ, zJ, zJ, zJ, zJ, zJ, zJ] [(0, x5)] kd m6 (zqI kd q)
    refine EvX.if_ne (off := 5) (tgt := 19) (by decide +kernel) (by decide) (fun hc => ?_) (fun hc => ?_)
    · have h := h.1 hc
      refine EvX.blk (pc' := 20) [(.aload_n 0, 0, 0)] (by decide +kernel) trivial ?_
      show Ev (d + 1) M_Mo_twice 0 0 20 [(2, v0), (0, v1), zJ, zJ, zJ, zJ, zJ, zJ, zJ, zJ, zJ] [(2, v0)] kd m6 (zqI kd q)
      obtain ⟨ov, h⟩ := h
      obtain ⟨q7, hq, h⟩ := h
      refine EvX.callV (c := 8) (mc := 0) (ms := 0) (as := []) (st := []) (by decide +kernel) l_Mo_347 k_Mo_pairRows v_Mo_pairRows a_Mo_pairRows (by decide) (Nat.le_of_ble_eq_true rfl) rfl ov hq (fun r kd1 m9 hr => ?_)
      obtain ⟨x8, rfl, hk, hr⟩ := hr
      subst kd1
      have h := h x8 m9 hr
      show Ev (d + 1) M_Mo_twice 0 0 23 [(2, v0), (0, v1), zJ, zJ, zJ, zJ, zJ, zJ, zJ, zJ, zJ] [(1, x8)] kd m9 (zqI kd q)
      refine EvX.blk (pc' := 27) [(.ldc2_w 338, 0, 70000), (.lcmp, 0, 0)] (by decide +kernel) ⟨z_Mo_338, trivial⟩ ?_
      show Ev (d + 1) M_Mo_twice 0 0 27 [(2, v0), (0, v1), zJ, zJ, zJ, zJ, zJ, zJ, zJ, zJ, zJ] [(0, zcmp x8 70000)] kd m9 (zqI kd q)
      refine EvX.if_le (off := 6) (tgt := 33) (by decide +kernel) (by decide) (fun hc => ?_) (fun hc => ?_)
      · have h := h.1 hc
        refine EvX.blk (pc' := 35) [(.aload_n 0, 0, 0), (.iload_n 1, 0, 0)] (by decide +kernel) trivial ?_
        show Ev (d + 1) M_Mo_twice 0 0 35 [(2, v0), (0, v1), zJ, zJ, zJ, zJ, zJ, zJ, zJ, zJ, zJ] [(0, v1), (2, v0)] kd m9 (zqI kd q)
        refine EvX.if_ne (off := 7) (tgt := 42) (by decide +kernel) (by decide) (fun hc => ?_) (fun hc => ?_)
        · have h := h.1 hc
          refine EvX.blk (pc' := 43) [(.iconst 0, 0, 0)] (by decide +kernel) trivial ?_
          show Ev (d + 1) M_Mo_twice 0 0 43 [(2, v0), (0, v1), zJ, zJ, zJ, zJ, zJ, zJ, zJ, zJ, zJ] [(0, 0), (2, v0)] kd m9 (zqI kd q)
          exact EvX.weak (ls2 := [(2, v0), zJ, zJ, zJ, zJ, zJ, zJ, zJ, zJ, zJ, zJ]) (zwk_of ⟨Or.inr rfl, Or.inl rfl, Or.inl rfl, Or.inl rfl, Or.inl rfl, Or.inl rfl, Or.inl rfl, Or.inl rfl, Or.inl rfl, Or.inl rfl, Or.inl rfl, trivial⟩) h
        · have h := h.2 hc
          refine EvX.blk (pc' := 39) [(.iconst 1, 0, 0)] (by decide +kernel) trivial ?_
          show Ev (d + 1) M_Mo_twice 0 0 39 [(2, v0), (0, v1), zJ, zJ, zJ, zJ, zJ, zJ, zJ, zJ, zJ] [(0, 1), (2, v0)] kd m9 (zqI kd q)
          refine EvX.goto (off := 4) (tgt := 43) (by decide +kernel) (by decide) ?_
          exact EvX.weak (ls2 := [(2, v0), zJ, zJ, zJ, zJ, zJ, zJ, zJ, zJ, zJ, zJ]) (zwk_of ⟨Or.inr rfl, Or.inl rfl, Or.inl rfl, Or.inl rfl, Or.inl rfl, Or.inl rfl, Or.inl rfl, Or.inl rfl, Or.inl rfl, Or.inl rfl, Or.inl rfl, trivial⟩) h
      · have h := h.2 hc
        refine EvX.blk (pc' := 32) [(.bipush (-2), 0, 0)] (by decide +kernel) trivial ?_
        show Ev (d + 1) M_Mo_twice 0 0 32 [(2, v0), (0, v1), zJ, zJ, zJ, zJ, zJ, zJ, zJ, zJ, zJ] [(0, (-2))] kd m9 (zqI kd q)
        exact EvX.ret (r := (0, (-2))) (by decide +kernel) rfl ⟨_, rfl, rfl, h⟩
    · have h := h.2 hc
      refine EvX.blk (pc' := 18) [(.iconst (-1), 0, 0)] (by decide +kernel) trivial ?_
      show Ev (d + 1) M_Mo_twice 0 0 18 [(2, v0), (0, v1), zJ, zJ, zJ, zJ, zJ, zJ, zJ, zJ, zJ] [(0, (-1))] kd m6 (zqI kd q)
      exact EvX.ret (r := (0, (-1))) (by decide +kernel) rfl ⟨_, rfl, rfl, h⟩
theorem S_Mo_twice {d : Nat} {kd : ZK} {m : ZM} {q : Int → ZM → Prop} {v0 v1 : Int} (h : (zobj kd v0 8 ∧ ∃ q1, CtI d M_Mo_hasGame [(2, v0)] kd m q1 ∧ ∀ x2 m3, q1 x2 m3 → ((x2 = 0 → q (-1) m3) ∧ (¬ x2 = 0 → (∃ q4, CtI d M_Mo_in [(1, v1), (1, 0), (1, 1)] kd m3 q4 ∧ ∀ x5 m6, q4 x5 m6 → ((x5 ≠ 0 → (zobj kd v0 8 ∧ ∃ q7, CtL d M_Mo_pairRows [(2, v0)] kd m6 q7 ∧ ∀ x8 m9, q7 x8 m9 → (((zcmp x8 70000) ≤ 0 → ((v1 ≠ 0 → (Ev (d + 1) M_Mo_twice 0 0 43 [(2, v0), zJ, zJ, zJ, zJ, zJ, zJ, zJ, zJ, zJ, zJ] [(0, 0), (2, v0)] kd m9 (zqI kd q))) ∧ (¬ v1 ≠ 0 → (Ev (d + 1) M_Mo_twice 0 0 43 [(2, v0), zJ, zJ, zJ, zJ, zJ, zJ, zJ, zJ, zJ, zJ] [(0, 1), (2, v0)] kd m9 (zqI kd q))))) ∧ (¬ (zcmp x8 70000) ≤ 0 → q (-2) m9)))) ∧ (¬ x5 ≠ 0 → q (-1) m6))))))) : CtI (d + 1) M_Mo_twice [(2, v0), (0, v1)] kd m q :=
  Ct.start k_Mo_twice (Nat.le_of_ble_eq_true rfl) ⟨1, Or.inr (Or.inl ⟨rfl, rfl⟩)⟩ (T_Mo_twice_0 h)
set_option maxRecDepth 20000 in
set_option maxHeartbeats 1000000 in
theorem T_Mo_twice_43 {d : Nat} {kd : ZK} {m : ZM} {q : Int → ZM → Prop} {v0 s0 s1 : Int} (h : (zobj kd s0 8 ∧ ∃ q1, CtV d M_Mo_laysWon [(2, s0), (0, s1)] kd m q1 ∧ ∀ m3, q1 m3 → (zobj kd v0 8 ∧ ∃ q4, CtI d M_Mo_answers [(2, v0), (0, 0)] kd m3 q4 ∧ ∀ x5 m6, q4 x5 m6 → (zobj kd v0 8 ∧ ∃ q7, CtI d M_Mo_answers [(2, v0), (0, 0)] kd m6 q7 ∧ ∀ x8 m9, q7 x8 m9 → (zobj kd v0 8 ∧ ∃ q10, CtL d M_Mo_pairRows [(2, v0)] kd m9 q10 ∧ ∀ x11 m12, q10 x11 m12 → (Ev (d + 1) M_Mo_twice 0 0 69 [(2, v0), zJ, (0, iw (x5 * x8)), (1, x11), zJ, (0, 0), (1, 0), zJ, zJ, zJ, zJ] [] kd m12 (zqI kd q))))))) : Ev (d + 1) M_Mo_twice 0 0 43 [(2, v0), zJ, zJ, zJ, zJ, zJ, zJ, zJ, zJ, zJ, zJ] [(0, s1), (2, s0)] kd m (zqI kd q) := by
  obtain ⟨ov, h⟩ := h
  obtain ⟨q1, hq, h⟩ := h
  refine EvX.callV (c := 8) (mc := 0) (ms := 0) (as := [(0, s1)]) (st := []) (by decide +kernel) l_Mo_351 k_Mo_laysWon v_Mo_laysWon a_Mo_laysWon (by decide) (Nat.le_of_ble_eq_true rfl) rfl ov hq (fun r kd1 m3 hr => ?_)
  obtain ⟨rfl, hk, hr⟩ := hr
  subst kd1
  have h := h m3 hr
  show Ev (d + 1) M_Mo_twice 0 0 46 [(2, v0), zJ, zJ, zJ, zJ, zJ, zJ, zJ, zJ, zJ, zJ] [] kd m3 (zqI kd q)
  refine EvX.blk (pc' := 48) [(.aload_n 0, 0, 0), (.iconst 0, 0, 0)] (by decide +kernel) trivial ?_
  show Ev (d + 1) M_Mo_twice 0 0 48 [(2, v0), zJ, zJ, zJ, zJ, zJ, zJ, zJ, zJ, zJ, zJ] [(0, 0), (2, v0)] kd m3 (zqI kd q)
  obtain ⟨ov, h⟩ := h
  obtain ⟨q4, hq, h⟩ := h
  refine EvX.callV (c := 8) (mc := 0) (ms := 0) (as := [(0, 0)]) (st := []) (by decide +kernel) l_Mo_167 k_Mo_answers v_Mo_answers a_Mo_answers (by decide) (Nat.le_of_ble_eq_true rfl) rfl ov hq (fun r kd1 m6 hr => ?_)
  obtain ⟨x5, rfl, hk, hr⟩ := hr
  subst kd1
  have h := h x5 m6 hr
  show Ev (d + 1) M_Mo_twice 0 0 51 [(2, v0), zJ, zJ, zJ, zJ, zJ, zJ, zJ, zJ, zJ, zJ] [(0, x5)] kd m6 (zqI kd q)
  refine EvX.blk (pc' := 53) [(.aload_n 0, 0, 0), (.iconst 0, 0, 0)] (by decide +kernel) trivial ?_
  show Ev (d + 1) M_Mo_twice 0 0 53 [(2, v0), zJ, zJ, zJ, zJ, zJ, zJ, zJ, zJ, zJ, zJ] [(0, 0), (2, v0), (0, x5)] kd m6 (zqI kd q)
  obtain ⟨ov, h⟩ := h
  obtain ⟨q7, hq, h⟩ := h
  refine EvX.callV (c := 8) (mc := 0) (ms := 0) (as := [(0, 0)]) (st := [(0, x5)]) (by decide +kernel) l_Mo_167 k_Mo_answers v_Mo_answers a_Mo_answers (by decide) (Nat.le_of_ble_eq_true rfl) rfl ov hq (fun r kd1 m9 hr => ?_)
  obtain ⟨x8, rfl, hk, hr⟩ := hr
  subst kd1
  have h := h x8 m9 hr
  show Ev (d + 1) M_Mo_twice 0 0 56 [(2, v0), zJ, zJ, zJ, zJ, zJ, zJ, zJ, zJ, zJ, zJ] [(0, x8), (0, x5)] kd m9 (zqI kd q)
  refine EvX.blk (pc' := 59) [(.imul, 0, 0), (.istore_n 2, 0, 0), (.aload_n 0, 0, 0)] (by decide +kernel) trivial ?_
  show Ev (d + 1) M_Mo_twice 0 0 59 [(2, v0), zJ, (0, iw (x5 * x8)), zJ, zJ, zJ, zJ, zJ, zJ, zJ, zJ] [(2, v0)] kd m9 (zqI kd q)
  obtain ⟨ov, h⟩ := h
  obtain ⟨q10, hq, h⟩ := h
  refine EvX.callV (c := 8) (mc := 0) (ms := 0) (as := []) (st := []) (by decide +kernel) l_Mo_347 k_Mo_pairRows v_Mo_pairRows a_Mo_pairRows (by decide) (Nat.le_of_ble_eq_true rfl) rfl ov hq (fun r kd1 m12 hr => ?_)
  obtain ⟨x11, rfl, hk, hr⟩ := hr
  subst kd1
  have h := h x11 m12 hr
  show Ev (d + 1) M_Mo_twice 0 0 62 [(2, v0), zJ, (0, iw (x5 * x8)), zJ, zJ, zJ, zJ, zJ, zJ, zJ, zJ] [(1, x11)] kd m12 (zqI kd q)
  refine EvX.blk (pc' := 69) [(.lstore_n 3, 0, 0), (.iconst 0, 0, 0), (.istore 5, 0, 0), (.lconst 0, 0, 0), (.lstore 6, 0, 0)] (by decide +kernel) trivial ?_
  show Ev (d + 1) M_Mo_twice 0 0 69 [(2, v0), zJ, (0, iw (x5 * x8)), (1, x11), zJ, (0, 0), (1, 0), zJ, zJ, zJ, zJ] [] kd m12 (zqI kd q)
  exact h
set_option maxRecDepth 20000 in
set_option maxHeartbeats 1000000 in
theorem T_Mo_twice_69 {d : Nat} {kd : ZK} {m : ZM} {q : Int → ZM → Prop} {v0 v2 v3 v5 v6 : Int} (h : ((0 ≤ (zcmp v6 v3) → q v5 m) ∧ (¬ 0 ≤ (zcmp v6 v3) → (Ev (d + 1) M_Mo_twice 0 0 83 [(2, v0), zJ, (0, v2), (1, v3), zJ, (0, v5), (1, v6), zJ, (1, v6), zJ, (0, 0)] [] kd m (zqI kd q))))) : Ev (d + 1) M_Mo_twice 0 0 69 [(2, v0), zJ, (0, v2), (1, v3), zJ, (0, v5), (1, v6), zJ, zJ, zJ, zJ] [] kd m (zqI kd q) := by
  refine EvX.blk (pc' := 73) [(.lload 6, 0, 0), (.lload_n 3, 0, 0), (.lcmp, 0, 0)] (by decide +kernel) trivial ?_
  show Ev (d + 1) M_Mo_twice 0 0 73 [(2, v0), zJ, (0, v2), (1, v3), zJ, (0, v5), (1, v6), zJ, zJ, zJ, zJ] [(0, zcmp v6 v3)] kd m (zqI kd q)
  refine EvX.if_ge (off := 72) (tgt := 145) (by decide +kernel) (by decide) (fun hc => ?_) (fun hc => ?_)
  · have h := h.1 hc
    refine EvX.blk (pc' := 147) [(.iload 5, 0, 0)] (by decide +kernel) trivial ?_
    show Ev (d + 1) M_Mo_twice 0 0 147 [(2, v0), zJ, (0, v2), (1, v3), zJ, (0, v5), (1, v6), zJ, zJ, zJ, zJ] [(0, v5)] kd m (zqI kd q)
    exact EvX.ret (r := (0, v5)) (by decide +kernel) rfl ⟨_, rfl, rfl, h⟩
  · have h := h.2 hc
    refine EvX.blk (pc' := 83) [(.lload 6, 0, 0), (.lstore 8, 0, 0), (.iconst 0, 0, 0), (.istore 10, 0, 0)] (by decide +kernel) trivial ?_
    show Ev (d + 1) M_Mo_twice 0 0 83 [(2, v0), zJ, (0, v2), (1, v3), zJ, (0, v5), (1, v6), zJ, (1, v6), zJ, (0, 0)] [] kd m (zqI kd q)
    exact h
set_option maxRecDepth 20000 in
set_option maxHeartbeats 1000000 in
theorem T_Mo_twice_83 {d : Nat} {kd : ZK} {m : ZM} {q : Int → ZM → Prop} {v0 v2 v3 v5 v6 v8 v10 : Int} (h : (zobj kd v0 8 ∧ ∃ q1, CtI d M_Mo_questions [(2, v0), (0, 0)] kd m q1 ∧ ∀ x2 m3, q1 x2 m3 → (zobj kd v0 8 ∧ ∃ q4, CtI d M_Mo_questions [(2, v0), (0, 0)] kd m3 q4 ∧ ∀ x5 m6, q4 x5 m6 → (((iw (x2 * x5)) ≤ v10 → (zobj kd v0 8 ∧ ∃ q7, CtI d M_Mo_pairWorth [(2, v0)] kd m6 q7 ∧ ∀ x8 m9, q7 x8 m9 → (Ev (d + 1) M_Mo_twice 0 0 69 [(2, v0), zJ, (0, v2), (1, v3), zJ, (0, zmax v5 x8), (1, lw64 (v6 + 1)), zJ, zJ, zJ, zJ] [] kd m9 (zqI kd q)))) ∧ (¬ (iw (x2 * x5)) ≤ v10 → (zobj kd v0 8 ∧ v2 ≠ 0 ∧ zIn kd (m6 v0 19) 0 v10 ∧ v2 ≠ 0 ∧ (Ev (d + 1) M_Mo_twice 0 0 83 [(2, v0), zJ, (0, v2), (1, v3), zJ, (0, v5), (1, v6), zJ, (1, lw64 (Int.tdiv v8 v2)), zJ, (0, iw (v10 + 1))] [] kd (zup m6 (m6 v0 19) v10 (iw (Int.tmod v8 v2))) (zqI kd q)))))))) : Ev (d + 1) M_Mo_twice 0 0 83 [(2, v0), zJ, (0, v2), (1, v3), zJ, (0, v5), (1, v6), zJ, (1, v8), zJ, (0, v10)] [] kd m (zqI kd q) := by
  refine EvX.blk (pc' := 87) [(.iload 10, 0, 0), (.aload_n 0, 0, 0), (.iconst 0, 0, 0)] (by decide +kernel) trivial ?_
  show Ev (d + 1) M_Mo_twice 0 0 87 [(2, v0), zJ, (0, v2), (1, v3), zJ, (0, v5), (1, v6), zJ, (1, v8), zJ, (0, v10)] [(0, 0), (2, v0), (0, v10)] kd m (zqI kd q)
  obtain ⟨ov, h⟩ := h
  obtain ⟨q1, hq, h⟩ := h
  refine EvX.callV (c := 8) (mc := 0) (ms := 0) (as := [(0, 0)]) (st := [(0, v10)]) (by decide +kernel) l_Mo_163 k_Mo_questions v_Mo_questions a_Mo_questions (by decide) (Nat.le_of_ble_eq_true rfl) rfl ov hq (fun r kd1 m3 hr => ?_)
  obtain ⟨x2, rfl, hk, hr⟩ := hr
  subst kd1
  have h := h x2 m3 hr
  show Ev (d + 1) M_Mo_twice 0 0 90 [(2, v0), zJ, (0, v2), (1, v3), zJ, (0, v5), (1, v6), zJ, (1, v8), zJ, (0, v10)] [(0, x2), (0, v10)] kd m3 (zqI kd q)
  refine EvX.blk (pc' := 92) [(.aload_n 0, 0, 0), (.iconst 0, 0, 0)] (by decide +kernel) trivial ?_
  show Ev (d + 1) M_Mo_twice 0 0 92 [(2, v0), zJ, (0, v2), (1, v3), zJ, (0, v5), (1, v6), zJ, (1, v8), zJ, (0, v10)] [(0, 0), (2, v0), (0, x2), (0, v10)] kd m3 (zqI kd q)
  obtain ⟨ov, h⟩ := h
  obtain ⟨q4, hq, h⟩ := h
  refine EvX.callV (c := 8) (mc := 0) (ms := 0) (as := [(0, 0)]) (st := [(0, x2), (0, v10)]) (by decide +kernel) l_Mo_163 k_Mo_questions v_Mo_questions a_Mo_questions (by decide) (Nat.le_of_ble_eq_true rfl) rfl ov hq (fun r kd1 m6 hr => ?_)
  obtain ⟨x5, rfl, hk, hr⟩ := hr
  subst kd1
  have h := h x5 m6 hr
  show Ev (d + 1) M_Mo_twice 0 0 95 [(2, v0), zJ, (0, v2), (1, v3), zJ, (0, v5), (1, v6), zJ, (1, v8), zJ, (0, v10)] [(0, x5), (0, x2), (0, v10)] kd m6 (zqI kd q)
  refine EvX.blk (pc' := 96) [(.imul, 0, 0)] (by decide +kernel) trivial ?_
  show Ev (d + 1) M_Mo_twice 0 0 96 [(2, v0), zJ, (0, v2), (1, v3), zJ, (0, v5), (1, v6), zJ, (1, v8), zJ, (0, v10)] [(0, iw (x2 * x5)), (0, v10)] kd m6 (zqI kd q)
  refine EvX.icmp_ge (off := 29) (tgt := 125) (by decide +kernel) (by decide) (fun hc => ?_) (fun hc => ?_)
  · have h := h.1 hc
    refine EvX.blk (pc' := 128) [(.iload 5, 0, 0), (.aload_n 0, 0, 0)] (by decide +kernel) trivial ?_
    show Ev (d + 1) M_Mo_twice 0 0 128 [(2, v0), zJ, (0, v2), (1, v3), zJ, (0, v5), (1, v6), zJ, (1, v8), zJ, (0, v10)] [(2, v0), (0, v5)] kd m6 (zqI kd q)
    obtain ⟨ov, h⟩ := h
    obtain ⟨q7, hq, h⟩ := h
    refine EvX.callV (c := 8) (mc := 0) (ms := 0) (as := []) (st := [(0, v5)]) (by decide +kernel) l_Mo_355 k_Mo_pairWorth v_Mo_pairWorth a_Mo_pairWorth (by decide) (Nat.le_of_ble_eq_true rfl) rfl ov hq (fun r kd1 m9 hr => ?_)
    obtain ⟨x8, rfl, hk, hr⟩ := hr
    subst kd1
    have h := h x8 m9 hr
    show Ev (d + 1) M_Mo_twice 0 0 131 [(2, v0), zJ, (0, v2), (1, v3), zJ, (0, v5), (1, v6), zJ, (1, v8), zJ, (0, v10)] [(0, x8), (0, v5)] kd m9 (zqI kd q)
    refine EvX.mmax' (by decide +kernel) y_Mo_253 (Nat.le_of_ble_eq_true rfl) ?_
    show Ev (d + 1) M_Mo_twice 0 0 134 [(2, v0), zJ, (0, v2), (1, v3), zJ, (0, v5), (1, v6), zJ, (1, v8), zJ, (0, v10)] [(0, zmax v5 x8)] kd m9 (zqI kd q)
    refine EvX.blk (pc' := 142) [(.istore 5, 0, 0), (.lload 6, 0, 0), (.lconst 1, 0, 0), (.ladd, 0, 0), (.lstore 6, 0, 0)] (by decide +kernel) trivial ?_
    show Ev (d + 1) M_Mo_twice 0 0 142 [(2, v0), zJ, (0, v2), (1, v3), zJ, (0, zmax v5 x8), (1, lw64 (v6 + 1)), zJ, (1, v8), zJ, (0, v10)] [] kd m9 (zqI kd q)
    refine EvX.goto (off := (-73)) (tgt := 69) (by decide +kernel) (by decide) ?_
    exact EvX.weak (ls2 := [(2, v0), zJ, (0, v2), (1, v3), zJ, (0, zmax v5 x8), (1, lw64 (v6 + 1)), zJ, zJ, zJ, zJ]) (zwk_of ⟨Or.inr rfl, Or.inl rfl, Or.inr rfl, Or.inr rfl, Or.inl rfl, Or.inr rfl, Or.inr rfl, Or.inl rfl, Or.inl rfl, Or.inl rfl, Or.inl rfl, trivial⟩) h
  · have h := h.2 hc
    obtain ⟨o1, o2, o3, o4, h⟩ := h
    refine EvX.blk (pc' := 122) [(.aload_n 0, 0, 0), (.getfield 48, 8, 19), (.iload 10, 0, 0), (.lload 8, 0, 0), (.iload_n 2, 0, 0), (.i2l, 0, 0), (.lrem, 0, 0), (.l2i, 0, 0), (.iastore, 0, 0), (.lload 8, 0, 0), (.iload_n 2, 0, 0), (.i2l, 0, 0), (.ldiv, 0, 0), (.lstore 8, 0, 0), (.iinc 10 1, 0, 0)] (by decide +kernel) ⟨g_Mo_48, trivial⟩ ⟨o1, o2, o3, o4, ?_⟩
    show Ev (d + 1) M_Mo_twice 0 0 122 [(2, v0), zJ, (0, v2), (1, v3), zJ, (0, v5), (1, v6), zJ, (1, lw64 (Int.tdiv v8 v2)), zJ, (0, iw (v10 + 1))] [] kd (zup m6 (m6 v0 19) v10 (iw (Int.tmod v8 v2))) (zqI kd q)
    refine EvX.goto (off := (-39)) (tgt := 83) (by decide +kernel) (by decide) ?_
    exact h
set_option maxRecDepth 20000 in
set_option maxHeartbeats 1000000 in
theorem T_Mo_product_0 {d : Nat} {kd : ZK} {m : ZM} {q : Int → ZM → Prop} {v0 : Int} (h : (zobj kd v0 8 ∧ ∃ q1, CtI d M_Mo_hasGame [(2, v0)] kd m q1 ∧ ∀ x2 m3, q1 x2 m3 → ((x2 ≠ 0 → (zobj kd v0 8 ∧ ∃ q4, CtI d M_Mo_isParityGame [(2, v0)] kd m3 q4 ∧ ∀ x5 m6, q4 x5 m6 → ((x5 ≠ 0 → (zobj kd v0 8 ∧ ∃ q7, CtI d M_Mo_questions [(2, v0), (0, 0)] kd m6 q7 ∧ ∀ x8 m9, q7 x8 m9 → (zobj kd v0 8 ∧ ∃ q10, CtI d M_Mo_questions [(2, v0), (0, 1)] kd m9 q10 ∧ ∀ x11 m12, q10 x11 m12 → ((x8 ≠ 5 → (Ev (d + 1) M_Mo_product 0 0 43 [(2, v0), (0, x8), (0, x11), (0, 0), zJ, zJ, zJ, zJ, zJ] [] kd m12 (zqI kd q))) ∧ (¬ x8 ≠ 5 → q (-2001) m12))))) ∧ (¬ x5 ≠ 0 → q (-2000) m6)))) ∧ (¬ x2 ≠ 0 → q (-1) m3)))) : Ev (d + 1) M_Mo_product 0 0 0 [(2, v0), zJ, zJ, zJ, zJ, zJ, zJ, zJ, zJ] [] kd m (zqI kd q) := by
  refine EvX.blk (pc' := 1) [(.aload_n 0, 0, 0)] (by decide +kernel) trivial ?_
  show Ev (d + 1) M_Mo_product 0 0 1 [(2, v0), zJ, zJ, zJ, zJ, zJ, zJ, zJ, zJ] [(2, v0)] kd m (zqI kd q)
  obtain ⟨ov, h⟩ := h
  obtain ⟨q1, hq, h⟩ := h
  refine EvX.callV (c := 8) (mc := 0) (ms := 0) (as := []) (st := []) (by decide +kernel) l_Mo_215 k_Mo_hasGame v_Mo_hasGame a_Mo_hasGame (by decide) (Nat.le_of_ble_eq_true rfl) rfl ov hq (fun r kd1 m3 hr => ?_)
  obtain ⟨x2, rfl, hk, hr⟩ := hr
  subst kd1
  have h := h x2 m3 hr
  show Ev (d + 1) M_Mo_product 0 0 4 [(2, v0), zJ, zJ, zJ, zJ, zJ, zJ, zJ, zJ] [(0, x2)] kd m3 (zqI kd q)
  refine EvX.if_ne (off := 5) (tgt := 9) (by decide +kernel) (by decide) (fun hc => ?_) (fun hc => ?_)
  · have h := h.1 hc
    refine EvX.blk (pc' := 10) [(.aload_n 0, 0, 0)] (by decide +kernel) trivial ?_
    show Ev (d + 1) M_Mo_product 0 0 10 [(2, v0), zJ, zJ, zJ, zJ, zJ, zJ, zJ, zJ] [(2, v0)] kd m3 (zqI kd q)
    obtain ⟨ov, h⟩ := h
    obtain ⟨q4, hq, h⟩ := h
    refine EvX.callV (c := 8) (mc := 0) (ms := 0) (as := []) (st := []) (by decide +kernel) l_Mo_332 k_Mo_isParityGame v_Mo_isParityGame a_Mo_isParityGame (by decide) (Nat.le_of_ble_eq_true rfl) rfl ov hq (fun r kd1 m6 hr => ?_)
    obtain ⟨x5, rfl, hk, hr⟩ := hr
    subst kd1
    have h := h x5 m6 hr
    show Ev (d + 1) M_Mo_product 0 0 13 [(2, v0), zJ, zJ, zJ, zJ, zJ, zJ, zJ, zJ] [(0, x5)] kd m6 (zqI kd q)
    refine EvX.if_ne (off := 7) (tgt := 20) (by decide +kernel) (by decide) (fun hc => ?_) (fun hc => ?_)
    · have h := h.1 hc
      refine EvX.blk (pc' := 22) [(.aload_n 0, 0, 0), (.iconst 0, 0, 0)] (by decide +kernel) trivial ?_
      show Ev (d + 1) M_Mo_product 0 0 22 [(2, v0), zJ, zJ, zJ, zJ, zJ, zJ, zJ, zJ] [(0, 0), (2, v0)] kd m6 (zqI kd q)
      obtain ⟨ov, h⟩ := h
      obtain ⟨q7, hq, h⟩ := h
      refine EvX.callV (c := 8) (mc := 0) (ms := 0) (as := [(0, 0)]) (st := []) (by decide +kernel) l_Mo_163 k_Mo_questions v_Mo_questions a_Mo_questions (by decide) (Nat.le_of_ble_eq_true rfl) rfl ov hq (fun r kd1 m9 hr => ?_)
      obtain ⟨x8, rfl, hk, hr⟩ := hr
      subst kd1
      have h := h x8 m9 hr
      show Ev (d + 1) M_Mo_product 0 0 25 [(2, v0), zJ, zJ, zJ, zJ, zJ, zJ, zJ, zJ] [(0, x8)] kd m9 (zqI kd q)
      refine EvX.blk (pc' := 28) [(.istore_n 1, 0, 0), (.aload_n 0, 0, 0), (.iconst 1, 0, 0)] (by decide +kernel) trivial ?_
      show Ev (d + 1) M_Mo_product 0 0 28 [(2, v0), (0, x8), zJ, zJ, zJ, zJ, zJ, zJ, zJ] [(0, 1), (2, v0)] kd m9 (zqI kd q)
      obtain ⟨ov, h⟩ := h
      obtain ⟨q10, hq, h⟩ := h
      refine EvX.callV (c := 8) (mc := 0) (ms := 0) (as := [(0, 1)]) (st := []) (by decide +kernel) l_Mo_163 k_Mo_questions v_Mo_questions a_Mo_questions (by decide) (Nat.le_of_ble_eq_true rfl) rfl ov hq (fun r kd1 m12 hr => ?_)
      obtain ⟨x11, rfl, hk, hr⟩ := hr
      subst kd1
      have h := h x11 m12 hr
      show Ev (d + 1) M_Mo_product 0 0 31 [(2, v0), (0, x8), zJ, zJ, zJ, zJ, zJ, zJ, zJ] [(0, x11)] kd m12 (zqI kd q)
      refine EvX.blk (pc' := 34) [(.istore_n 2, 0, 0), (.iload_n 1, 0, 0), (.iconst 5, 0, 0)] (by decide +kernel) trivial ?_
      show Ev (d + 1) M_Mo_product 0 0 34 [(2, v0), (0, x8), (0, x11), zJ, zJ, zJ, zJ, zJ, zJ] [(0, 5), (0, x8)] kd m12 (zqI kd q)
      refine EvX.icmp_ne (off := 7) (tgt := 41) (by decide +kernel) (by decide) (fun hc => ?_) (fun hc => ?_)
      · have h := h.1 hc
        refine EvX.blk (pc' := 43) [(.iconst 0, 0, 0), (.istore_n 3, 0, 0)] (by decide +kernel) trivial ?_
        show Ev (d + 1) M_Mo_product 0 0 43 [(2, v0), (0, x8), (0, x11), (0, 0), zJ, zJ, zJ, zJ, zJ] [] kd m12 (zqI kd q)
        exact h
      · have h := h.2 hc
        refine EvX.blk (pc' := 40) [(.sipush (-2001), 0, 0)] (by decide +kernel) trivial ?_
        show Ev (d + 1) M_Mo_product 0 0 40 [(2, v0), (0, x8), (0, x11), zJ, zJ, zJ, zJ, zJ, zJ] [(0, (-2001))] kd m12 (zqI kd q)
        exact EvX.ret (r := (0, (-2001))) (by decide +kernel) rfl ⟨_, rfl, rfl, h⟩
    · have h := h.2 hc
      refine EvX.blk (pc' := 19) [(.sipush (-2000), 0, 0)] (by decide +kernel) trivial ?_
      show Ev (d + 1) M_Mo_product 0 0 19 [(2, v0), zJ, zJ, zJ, zJ, zJ, zJ, zJ, zJ] [(0, (-2000))] kd m6 (zqI kd q)
      exact EvX.ret (r := (0, (-2000))) (by decide +kernel) rfl ⟨_, rfl, rfl, h⟩
  · have h := h.2 hc
    refine EvX.blk (pc' := 8) [(.iconst (-1), 0, 0)] (by decide +kernel) trivial ?_
    show Ev (d + 1) M_Mo_product 0 0 8 [(2, v0), zJ, zJ, zJ, zJ, zJ, zJ, zJ, zJ] [(0, (-1))] kd m3 (zqI kd q)
    exact EvX.ret (r := (0, (-1))) (by decide +kernel) rfl ⟨_, rfl, rfl, h⟩
theorem S_Mo_product {d : Nat} {kd : ZK} {m : ZM} {q : Int → ZM → Prop} {v0 : Int} (h : (zobj kd v0 8 ∧ ∃ q1, CtI d M_Mo_hasGame [(2, v0)] kd m q1 ∧ ∀ x2 m3, q1 x2 m3 → ((x2 ≠ 0 → (zobj kd v0 8 ∧ ∃ q4, CtI d M_Mo_isParityGame [(2, v0)] kd m3 q4 ∧ ∀ x5 m6, q4 x5 m6 → ((x5 ≠ 0 → (zobj kd v0 8 ∧ ∃ q7, CtI d M_Mo_questions [(2, v0), (0, 0)] kd m6 q7 ∧ ∀ x8 m9, q7 x8 m9 → (zobj kd v0 8 ∧ ∃ q10, CtI d M_Mo_questions [(2, v0), (0, 1)] kd m9 q10 ∧ ∀ x11 m12, q10 x11 m12 → ((x8 ≠ 5 → (Ev (d + 1) M_Mo_product 0 0 43 [(2, v0), (0, x8), (0, x11), (0, 0), zJ, zJ, zJ, zJ, zJ] [] kd m12 (zqI kd q))) ∧ (¬ x8 ≠ 5 → q (-2001) m12))))) ∧ (¬ x5 ≠ 0 → q (-2000) m6)))) ∧ (¬ x2 ≠ 0 → q (-1) m3)))) : CtI (d + 1) M_Mo_product [(2, v0)] kd m q :=
  Ct.start k_Mo_product (Nat.le_of_ble_eq_true rfl) ⟨1, Or.inr (Or.inl ⟨rfl, rfl⟩)⟩ (T_Mo_product_0 h)
set_option maxRecDepth 20000 in
set_option maxHeartbeats 1000000 in
theorem T_Mo_product_43 {d : Nat} {kd : ZK} {m : ZM} {q : Int → ZM → Prop} {v0 v1 v2 v3 : Int} (h : (((iw (v1 * v1)) ≤ v3 → (Ev (d + 1) M_Mo_product 0 0 141 [(2, v0), (0, v1), (0, v2), (0, 0), (0, 0), zJ, zJ, zJ, zJ] [] kd m (zqI kd q))) ∧ (¬ (iw (v1 * v1)) ≤ v3 → (Ev (d + 1) M_Mo_product 0 0 53 [(2, v0), (0, v1), (0, v2), (0, v3), (0, 0), zJ, zJ, zJ, zJ] [] kd m (zqI kd q))))) : Ev (d + 1) M_Mo_product 0 0 43 [(2, v0), (0, v1), (0, v2), (0, v3), zJ, zJ, zJ, zJ, zJ] [] kd m (zqI kd q) := by
  refine EvX.blk (pc' := 47) [(.iload_n 3, 0, 0), (.iload_n 1, 0, 0), (.iload_n 1, 0, 0), (.imul, 0, 0)] (by decide +kernel) trivial ?_
  show Ev (d + 1) M_Mo_product 0 0 47 [(2, v0), (0, v1), (0, v2), (0, v3), zJ, zJ, zJ, zJ, zJ] [(0, iw (v1 * v1)), (0, v3)] kd m (zqI kd q)
  refine EvX.icmp_ge (off := 89) (tgt := 136) (by decide +kernel) (by decide) (fun hc => ?_) (fun hc => ?_)
  · have h := h.1 hc
    refine EvX.blk (pc' := 141) [(.iconst 0, 0, 0), (.istore_n 3, 0, 0), (.iconst 0, 0, 0), (.istore 4, 0, 0)] (by decide +kernel) trivial ?_
    show Ev (d + 1) M_Mo_product 0 0 141 [(2, v0), (0, v1), (0, v2), (0, 0), (0, 0), zJ, zJ, zJ, zJ] [] kd m (zqI kd q)
    exact h
  · have h := h.2 hc
    refine EvX.blk (pc' := 53) [(.iconst 0, 0, 0), (.istore 4, 0, 0)] (by decide +kernel) trivial ?_
    show Ev (d + 1) M_Mo_product 0 0 53 [(2, v0), (0, v1), (0, v2), (0, v3), (0, 0), zJ, zJ, zJ, zJ] [] kd m (zqI kd q)
    exact h
set_option maxRecDepth 20000 in
set_option maxHeartbeats 1000000 in
theorem T_Mo_product_53 {d : Nat} {kd : ZK} {m : ZM} {q : Int → ZM → Prop} {v0 v1 v2 v3 v4 : Int} (h : (((iw (v2 * v2)) ≤ v4 → (Ev (d + 1) M_Mo_product 0 0 43 [(2, v0), (0, v1), (0, v2), (0, iw (v3 + 1)), zJ, zJ, zJ, zJ, zJ] [] kd m (zqI kd q))) ∧ (¬ (iw (v2 * v2)) ≤ v4 → (v1 ≠ 0 ∧ v2 ≠ 0 ∧ (zobj kd v0 8 ∧ ∃ q1, CtI d M_Mo_weightOf [(2, v0), (0, iw (Int.tdiv v3 v1)), (0, iw (Int.tdiv v4 v2))] kd m q1 ∧ ∀ x2 m3, q1 x2 m3 → (v1 ≠ 0 ∧ v2 ≠ 0 ∧ (zobj kd v0 8 ∧ ∃ q4, CtI d M_Mo_signOf [(2, v0), (0, iw (Int.tdiv v3 v1)), (0, iw (Int.tdiv v4 v2))] kd m3 q4 ∧ ∀ x5 m6, q4 x5 m6 → (zobj kd v0 8 ∧ v1 ≠ 0 ∧ v2 ≠ 0 ∧ (zobj kd v0 8 ∧ ∃ q7, CtI d M_Mo_weightOf [(2, v0), (0, Int.tmod v3 v1), (0, Int.tmod v4 v2)] kd m6 q7 ∧ ∀ x8 m9, q7 x8 m9 → (v1 ≠ 0 ∧ v2 ≠ 0 ∧ (zobj kd v0 8 ∧ ∃ q10, CtI d M_Mo_signOf [(2, v0), (0, Int.tmod v3 v1), (0, Int.tmod v4 v2)] kd m9 q10 ∧ ∀ x11 m12, q10 x11 m12 → (zIn kd (m6 v0 20) 0 (iw ((iw (25 * v3)) + v4)) ∧ (Ev (d + 1) M_Mo_product 0 0 53 [(2, v0), (0, v1), (0, v2), (0, v3), (0, iw (v4 + 1)), zJ, zJ, zJ, zJ] [] kd (zup m12 (m6 v0 20) (iw ((iw (25 * v3)) + v4)) (iw ((iw ((iw (x2 * x5)) * x8)) * x11))) (zqI kd q)))))))))))))) : Ev (d + 1) M_Mo_product 0 0 53 [(2, v0), (0, v1), (0, v2), (0, v3), (0, v4), zJ, zJ, zJ, zJ] [] kd m (zqI kd q) := by
  refine EvX.blk (pc' := 58) [(.iload 4, 0, 0), (.iload_n 2, 0, 0), (.iload_n 2, 0, 0), (.imul, 0, 0)] (by decide +kernel) trivial ?_
  show Ev (d + 1) M_Mo_product 0 0 58 [(2, v0), (0, v1), (0, v2), (0, v3), (0, v4), zJ, zJ, zJ, zJ] [(0, iw (v2 * v2)), (0, v4)] kd m (zqI kd q)
  refine EvX.icmp_ge (off := 72) (tgt := 130) (by decide +kernel) (by decide) (fun hc => ?_) (fun hc => ?_)
  · have h := h.1 hc
    refine EvX.blk (pc' := 133) [(.iinc 3 1, 0, 0)] (by decide +kernel) trivial ?_
    show Ev (d + 1) M_Mo_product 0 0 133 [(2, v0), (0, v1), (0, v2), (0, iw (v3 + 1)), (0, v4), zJ, zJ, zJ, zJ] [] kd m (zqI kd q)
    refine EvX.goto (off := (-90)) (tgt := 43) (by decide +kernel) (by decide) ?_
    exact EvX.weak (ls2 := [(2, v0), (0, v1), (0, v2), (0, iw (v3 + 1)), zJ, zJ, zJ, zJ, zJ]) (zwk_of ⟨Or.inr rfl, Or.inr rfl, Or.inr rfl, Or.inr rfl, Or.inl rfl, Or.inl rfl, Or.inl rfl, Or.inl rfl, Or.inl rfl, trivial⟩) h
  · have h := h.2 hc
    obtain ⟨o1, o2, h⟩ := h
    refine EvX.blk (pc' := 69) [(.aload_n 0, 0, 0), (.iload_n 3, 0, 0), (.iload_n 1, 0, 0), (.idiv, 0, 0), (.iload 4, 0, 0), (.iload_n 2, 0, 0), (.idiv, 0, 0)] (by decide +kernel) trivial ⟨o1, o2, ?_⟩
    show Ev (d + 1) M_Mo_product 0 0 69 [(2, v0), (0, v1), (0, v2), (0, v3), (0, v4), zJ, zJ, zJ, zJ] [(0, iw (Int.tdiv v4 v2)), (0, iw (Int.tdiv v3 v1)), (2, v0)] kd m (zqI kd q)
    obtain ⟨ov, h⟩ := h
    obtain ⟨q1, hq, h⟩ := h
    refine EvX.callV (c := 8) (mc := 0) (ms := 0) (as := [(0, iw (Int.tdiv v3 v1)), (0, iw (Int.tdiv v4 v2))]) (st := []) (by decide +kernel) l_Mo_180 k_Mo_weightOf v_Mo_weightOf a_Mo_weightOf (by decide) (Nat.le_of_ble_eq_true rfl) rfl ov hq (fun r kd1 m3 hr => ?_)
    obtain ⟨x2, rfl, hk, hr⟩ := hr
    subst kd1
    have h := h x2 m3 hr
    show Ev (d + 1) M_Mo_product 0 0 72 [(2, v0), (0, v1), (0, v2), (0, v3), (0, v4), zJ, zJ, zJ, zJ] [(0, x2)] kd m3 (zqI kd q)
    obtain ⟨o1, o2, h⟩ := h
    refine EvX.blk (pc' := 80) [(.aload_n 0, 0, 0), (.iload_n 3, 0, 0), (.iload_n 1, 0, 0), (.idiv, 0, 0), (.iload 4, 0, 0), (.iload_n 2, 0, 0), (.idiv, 0, 0)] (by decide +kernel) trivial ⟨o1, o2, ?_⟩
    show Ev (d + 1) M_Mo_product 0 0 80 [(2, v0), (0, v1), (0, v2), (0, v3), (0, v4), zJ, zJ, zJ, zJ] [(0, iw (Int.tdiv v4 v2)), (0, iw (Int.tdiv v3 v1)), (2, v0), (0, x2)] kd m3 (zqI kd q)
    obtain ⟨ov, h⟩ := h
    obtain ⟨q4, hq, h⟩ := h
    refine EvX.callV (c := 8) (mc := 0) (ms := 0) (as := [(0, iw (Int.tdiv v3 v1)), (0, iw (Int.tdiv v4 v2))]) (st := [(0, x2)]) (by decide +kernel) l_Mo_329 k_Mo_signOf v_Mo_signOf a_Mo_signOf (by decide) (Nat.le_of_ble_eq_true rfl) rfl ov hq (fun r kd1 m6 hr => ?_)
    obtain ⟨x5, rfl, hk, hr⟩ := hr
    subst kd1
    have h := h x5 m6 hr
    show Ev (d + 1) M_Mo_product 0 0 83 [(2, v0), (0, v1), (0, v2), (0, v3), (0, v4), zJ, zJ, zJ, zJ] [(0, x5), (0, x2)] kd m6 (zqI kd q)
    obtain ⟨o1, o2, o3, h⟩ := h
    refine EvX.blk (pc' := 107) [(.imul, 0, 0), (.istore 5, 0, 0), (.aload_n 0, 0, 0), (.getfield 51, 8, 20), (.bipush 25, 0, 0), (.iload_n 3, 0, 0), (.imul, 0, 0), (.iload 4, 0, 0), (.iadd, 0, 0), (.iload 5, 0, 0), (.aload_n 0, 0, 0), (.iload_n 3, 0, 0), (.iload_n 1, 0, 0), (.irem, 0, 0), (.iload 4, 0, 0), (.iload_n 2, 0, 0), (.irem, 0, 0)] (by decide +kernel) ⟨g_Mo_51, trivial⟩ ⟨o1, o2, o3, ?_⟩
    show Ev (d + 1) M_Mo_product 0 0 107 [(2, v0), (0, v1), (0, v2), (0, v3), (0, v4), (0, iw (x2 * x5)), zJ, zJ, zJ] [(0, Int.tmod v4 v2), (0, Int.tmod v3 v1), (2, v0), (0, iw (x2 * x5)), (0, iw ((iw (25 * v3)) + v4)), (2, m6 v0 20)] kd m6 (zqI kd q)
    obtain ⟨ov, h⟩ := h
    obtain ⟨q7, hq, h⟩ := h
    refine EvX.callV (c := 8) (mc := 0) (ms := 0) (as := [(0, Int.tmod v3 v1), (0, Int.tmod v4 v2)]) (st := [(0, iw (x2 * x5)), (0, iw ((iw (25 * v3)) + v4)), (2, m6 v0 20)]) (by decide +kernel) l_Mo_180 k_Mo_weightOf v_Mo_weightOf a_Mo_weightOf (by decide) (Nat.le_of_ble_eq_true rfl) rfl ov hq (fun r kd1 m9 hr => ?_)
    obtain ⟨x8, rfl, hk, hr⟩ := hr
    subst kd1
    have h := h x8 m9 hr
    show Ev (d + 1) M_Mo_product 0 0 110 [(2, v0), (0, v1), (0, v2), (0, v3), (0, v4), (0, iw (x2 * x5)), zJ, zJ, zJ] [(0, x8), (0, iw (x2 * x5)), (0, iw ((iw (25 * v3)) + v4)), (2, m6 v0 20)] kd m9 (zqI kd q)
    obtain ⟨o1, o2, h⟩ := h
    refine EvX.blk (pc' := 119) [(.imul, 0, 0), (.aload_n 0, 0, 0), (.iload_n 3, 0, 0), (.iload_n 1, 0, 0), (.irem, 0, 0), (.iload 4, 0, 0), (.iload_n 2, 0, 0), (.irem, 0, 0)] (by decide +kernel) trivial ⟨o1, o2, ?_⟩
    show Ev (d + 1) M_Mo_product 0 0 119 [(2, v0), (0, v1), (0, v2), (0, v3), (0, v4), (0, iw (x2 * x5)), zJ, zJ, zJ] [(0, Int.tmod v4 v2), (0, Int.tmod v3 v1), (2, v0), (0, iw ((iw (x2 * x5)) * x8)), (0, iw ((iw (25 * v3)) + v4)), (2, m6 v0 20)] kd m9 (zqI kd q)
    obtain ⟨ov, h⟩ := h
    obtain ⟨q10, hq, h⟩ := h
    refine EvX.callV (c := 8) (mc := 0) (ms := 0) (as := [(0, Int.tmod v3 v1), (0, Int.tmod v4 v2)]) (st := [(0, iw ((iw (x2 * x5)) * x8)), (0, iw ((iw (25 * v3)) + v4)), (2, m6 v0 20)]) (by decide +kernel) l_Mo_329 k_Mo_signOf v_Mo_signOf a_Mo_signOf (by decide) (Nat.le_of_ble_eq_true rfl) rfl ov hq (fun r kd1 m12 hr => ?_)
    obtain ⟨x11, rfl, hk, hr⟩ := hr
    subst kd1
    have h := h x11 m12 hr
    show Ev (d + 1) M_Mo_product 0 0 122 [(2, v0), (0, v1), (0, v2), (0, v3), (0, v4), (0, iw (x2 * x5)), zJ, zJ, zJ] [(0, x11), (0, iw ((iw (x2 * x5)) * x8)), (0, iw ((iw (25 * v3)) + v4)), (2, m6 v0 20)] kd m12 (zqI kd q)
    obtain ⟨o1, h⟩ := h
    refine EvX.blk (pc' := 127) [(.imul, 0, 0), (.iastore, 0, 0), (.iinc 4 1, 0, 0)] (by decide +kernel) trivial ⟨o1, ?_⟩
    show Ev (d + 1) M_Mo_product 0 0 127 [(2, v0), (0, v1), (0, v2), (0, v3), (0, iw (v4 + 1)), (0, iw (x2 * x5)), zJ, zJ, zJ] [] kd (zup m12 (m6 v0 20) (iw ((iw (25 * v3)) + v4)) (iw ((iw ((iw (x2 * x5)) * x8)) * x11))) (zqI kd q)
    refine EvX.goto (off := (-74)) (tgt := 53) (by decide +kernel) (by decide) ?_
    exact EvX.weak (ls2 := [(2, v0), (0, v1), (0, v2), (0, v3), (0, iw (v4 + 1)), zJ, zJ, zJ, zJ]) (zwk_of ⟨Or.inr rfl, Or.inr rfl, Or.inr rfl, Or.inr rfl, Or.inr rfl, Or.inl rfl, Or.inl rfl, Or.inl rfl, Or.inl rfl, trivial⟩) h
set_option maxRecDepth 20000 in
set_option maxHeartbeats 1000000 in
theorem T_Mo_product_141 {d : Nat} {kd : ZK} {m : ZM} {q : Int → ZM → Prop} {v0 v1 v2 v3 v4 : Int} (h : (((zshl 1 (iw ((iw (v1 * v1)) - 1))) ≤ v4 → q v3 m) ∧ (¬ (zshl 1 (iw ((iw (v1 * v1)) - 1))) ≤ v4 → (Ev (d + 1) M_Mo_product 0 0 159 [(2, v0), (0, v1), (0, v2), (0, v3), (0, v4), (0, 0), (0, 0), zJ, zJ] [] kd m (zqI kd q))))) : Ev (d + 1) M_Mo_product 0 0 141 [(2, v0), (0, v1), (0, v2), (0, v3), (0, v4), zJ, zJ, zJ, zJ] [] kd m (zqI kd q) := by
  refine EvX.blk (pc' := 150) [(.iload 4, 0, 0), (.iconst 1, 0, 0), (.iload_n 1, 0, 0), (.iload_n 1, 0, 0), (.imul, 0, 0), (.iconst 1, 0, 0), (.isub, 0, 0), (.ishl, 0, 0)] (by decide +kernel) trivial ?_
  show Ev (d + 1) M_Mo_product 0 0 150 [(2, v0), (0, v1), (0, v2), (0, v3), (0, v4), zJ, zJ, zJ, zJ] [(0, zshl 1 (iw ((iw (v1 * v1)) - 1))), (0, v4)] kd m (zqI kd q)
  refine EvX.icmp_ge (off := 112) (tgt := 262) (by decide +kernel) (by decide) (fun hc => ?_) (fun hc => ?_)
  · have h := h.1 hc
    refine EvX.blk (pc' := 263) [(.iload_n 3, 0, 0)] (by decide +kernel) trivial ?_
    show Ev (d + 1) M_Mo_product 0 0 263 [(2, v0), (0, v1), (0, v2), (0, v3), (0, v4), zJ, zJ, zJ, zJ] [(0, v3)] kd m (zqI kd q)
    exact EvX.ret (r := (0, v3)) (by decide +kernel) rfl ⟨_, rfl, rfl, h⟩
  · have h := h.2 hc
    refine EvX.blk (pc' := 159) [(.iconst 0, 0, 0), (.istore 5, 0, 0), (.iconst 0, 0, 0), (.istore 6, 0, 0)] (by decide +kernel) trivial ?_
    show Ev (d + 1) M_Mo_product 0 0 159 [(2, v0), (0, v1), (0, v2), (0, v3), (0, v4), (0, 0), (0, 0), zJ, zJ] [] kd m (zqI kd q)
    exact h
set_option maxRecDepth 20000 in
set_option maxHeartbeats 1000000 in
theorem T_Mo_product_159 {d : Nat} {kd : ZK} {m : ZM} {q : Int → ZM → Prop} {v0 v1 v2 v3 v4 v5 v6 : Int} (h : (((iw (v2 * v2)) ≤ v6 → (Ev (d + 1) M_Mo_product 0 0 141 [(2, v0), (0, v1), (0, v2), (0, zmax v3 v5), (0, iw (v4 + 1)), zJ, zJ, zJ, zJ] [] kd m (zqI kd q))) ∧ (¬ (iw (v2 * v2)) ≤ v6 → (Ev (d + 1) M_Mo_product 0 0 173 [(2, v0), (0, v1), (0, v2), (0, v3), (0, v4), (0, v5), (0, v6), (0, 0), (0, 0)] [] kd m (zqI kd q))))) : Ev (d + 1) M_Mo_product 0 0 159 [(2, v0), (0, v1), (0, v2), (0, v3), (0, v4), (0, v5), (0, v6), zJ, zJ] [] kd m (zqI kd q) := by
  refine EvX.blk (pc' := 164) [(.iload 6, 0, 0), (.iload_n 2, 0, 0), (.iload_n 2, 0, 0), (.imul, 0, 0)] (by decide +kernel) trivial ?_
  show Ev (d + 1) M_Mo_product 0 0 164 [(2, v0), (0, v1), (0, v2), (0, v3), (0, v4), (0, v5), (0, v6), zJ, zJ] [(0, iw (v2 * v2)), (0, v6)] kd m (zqI kd q)
  refine EvX.icmp_ge (off := 85) (tgt := 249) (by decide +kernel) (by decide) (fun hc => ?_) (fun hc => ?_)
  · have h := h.1 hc
    refine EvX.blk (pc' := 252) [(.iload_n 3, 0, 0), (.iload 5, 0, 0)] (by decide +kernel) trivial ?_
    show Ev (d + 1) M_Mo_product 0 0 252 [(2, v0), (0, v1), (0, v2), (0, v3), (0, v4), (0, v5), (0, v6), zJ, zJ] [(0, v5), (0, v3)] kd m (zqI kd q)
    refine EvX.mmax' (by decide +kernel) y_Mo_253 (Nat.le_of_ble_eq_true rfl) ?_
    show Ev (d + 1) M_Mo_product 0 0 255 [(2, v0), (0, v1), (0, v2), (0, v3), (0, v4), (0, v5), (0, v6), zJ, zJ] [(0, zmax v3 v5)] kd m (zqI kd q)
    refine EvX.blk (pc' := 259) [(.istore_n 3, 0, 0), (.iinc 4 1, 0, 0)] (by decide +kernel) trivial ?_
    show Ev (d + 1) M_Mo_product 0 0 259 [(2, v0), (0, v1), (0, v2), (0, zmax v3 v5), (0, iw (v4 + 1)), (0, v5), (0, v6), zJ, zJ] [] kd m (zqI kd q)
    refine EvX.goto (off := (-118)) (tgt := 141) (by decide +kernel) (by decide) ?_
    exact EvX.weak (ls2 := [(2, v0), (0, v1), (0, v2), (0, zmax v3 v5), (0, iw (v4 + 1)), zJ, zJ, zJ, zJ]) (zwk_of ⟨Or.inr rfl, Or.inr rfl, Or.inr rfl, Or.inr rfl, Or.inr rfl, Or.inl rfl, Or.inl rfl, Or.inl rfl, Or.inl rfl, trivial⟩) h
  · have h := h.2 hc
    refine EvX.blk (pc' := 173) [(.iconst 0, 0, 0), (.istore 7, 0, 0), (.iconst 0, 0, 0), (.istore 8, 0, 0)] (by decide +kernel) trivial ?_
    show Ev (d + 1) M_Mo_product 0 0 173 [(2, v0), (0, v1), (0, v2), (0, v3), (0, v4), (0, v5), (0, v6), (0, 0), (0, 0)] [] kd m (zqI kd q)
    exact h
set_option maxRecDepth 20000 in
set_option maxHeartbeats 1000000 in
theorem T_Mo_product_173 {d : Nat} {kd : ZK} {m : ZM} {q : Int → ZM → Prop} {v0 v1 v2 v3 v4 v5 v6 v7 v8 : Int} (h : (((iw (v1 * v1)) ≤ v8 → (Ev (d + 1) M_Mo_product 0 0 159 [(2, v0), (0, v1), (0, v2), (0, v3), (0, v4), (0, iw (v5 + (zabs v7))), (0, iw (v6 + 1)), zJ, zJ] [] kd m (zqI kd q))) ∧ (¬ (iw (v1 * v1)) ≤ v8 → (((zand (zshr v4 v8) 1) ≠ 1 → (zobj kd v0 8 ∧ zIn kd (m v0 20) 0 (iw ((iw (25 * v8)) + v6)) ∧ (Ev (d + 1) M_Mo_product 0 0 173 [(2, v0), (0, v1), (0, v2), (0, v3), (0, v4), (0, v5), (0, v6), (0, iw (v7 + (m (m v0 20) (iw ((iw (25 * v8)) + v6))))), (0, iw (v8 + 1))] [] kd m (zqI kd q)))) ∧ (¬ (zand (zshr v4 v8) 1) ≠ 1 → (zobj kd v0 8 ∧ zIn kd (m v0 20) 0 (iw ((iw (25 * v8)) + v6)) ∧ (Ev (d + 1) M_Mo_product 0 0 173 [(2, v0), (0, v1), (0, v2), (0, v3), (0, v4), (0, v5), (0, v6), (0, iw (v7 + (iw (-(m (m v0 20) (iw ((iw (25 * v8)) + v6))))))), (0, iw (v8 + 1))] [] kd m (zqI kd q)))))))) : Ev (d + 1) M_Mo_product 0 0 173 [(2, v0), (0, v1), (0, v2), (0, v3), (0, v4), (0, v5), (0, v6), (0, v7), (0, v8)] [] kd m (zqI kd q) := by
  refine EvX.blk (pc' := 178) [(.iload 8, 0, 0), (.iload_n 1, 0, 0), (.iload_n 1, 0, 0), (.imul, 0, 0)] (by decide +kernel) trivial ?_
  show Ev (d + 1) M_Mo_product 0 0 178 [(2, v0), (0, v1), (0, v2), (0, v3), (0, v4), (0, v5), (0, v6), (0, v7), (0, v8)] [(0, iw (v1 * v1)), (0, v8)] kd m (zqI kd q)
  refine EvX.icmp_ge (off := 55) (tgt := 233) (by decide +kernel) (by decide) (fun hc => ?_) (fun hc => ?_)
  · have h := h.1 hc
    refine EvX.blk (pc' := 237) [(.iload 5, 0, 0), (.iload 7, 0, 0)] (by decide +kernel) trivial ?_
    show Ev (d + 1) M_Mo_product 0 0 237 [(2, v0), (0, v1), (0, v2), (0, v3), (0, v4), (0, v5), (0, v6), (0, v7), (0, v8)] [(0, v7), (0, v5)] kd m (zqI kd q)
    refine EvX.mabs' (by decide +kernel) y_Mo_358 (Nat.le_of_ble_eq_true rfl) ?_
    show Ev (d + 1) M_Mo_product 0 0 240 [(2, v0), (0, v1), (0, v2), (0, v3), (0, v4), (0, v5), (0, v6), (0, v7), (0, v8)] [(0, zabs v7), (0, v5)] kd m (zqI kd q)
    refine EvX.blk (pc' := 246) [(.iadd, 0, 0), (.istore 5, 0, 0), (.iinc 6 1, 0, 0)] (by decide +kernel) trivial ?_
    show Ev (d + 1) M_Mo_product 0 0 246 [(2, v0), (0, v1), (0, v2), (0, v3), (0, v4), (0, iw (v5 + (zabs v7))), (0, iw (v6 + 1)), (0, v7), (0, v8)] [] kd m (zqI kd q)
    refine EvX.goto (off := (-87)) (tgt := 159) (by decide +kernel) (by decide) ?_
    exact EvX.weak (ls2 := [(2, v0), (0, v1), (0, v2), (0, v3), (0, v4), (0, iw (v5 + (zabs v7))), (0, iw (v6 + 1)), zJ, zJ]) (zwk_of ⟨Or.inr rfl, Or.inr rfl, Or.inr rfl, Or.inr rfl, Or.inr rfl, Or.inr rfl, Or.inr rfl, Or.inl rfl, Or.inl rfl, trivial⟩) h
  · have h := h.2 hc
    refine EvX.blk (pc' := 191) [(.iload 7, 0, 0), (.iload 4, 0, 0), (.iload 8, 0, 0), (.ishr, 0, 0), (.iconst 1, 0, 0), (.iand, 0, 0), (.iconst 1, 0, 0)] (by decide +kernel) trivial ?_
    show Ev (d + 1) M_Mo_product 0 0 191 [(2, v0), (0, v1), (0, v2), (0, v3), (0, v4), (0, v5), (0, v6), (0, v7), (0, v8)] [(0, 1), (0, zand (zshr v4 v8) 1), (0, v7)] kd m (zqI kd q)
    refine EvX.icmp_ne (off := 20) (tgt := 211) (by decide +kernel) (by decide) (fun hc => ?_) (fun hc => ?_)
    · have h := h.1 hc
      obtain ⟨o1, o2, h⟩ := h
      refine EvX.blk (pc' := 230) [(.aload_n 0, 0, 0), (.getfield 51, 8, 20), (.bipush 25, 0, 0), (.iload 8, 0, 0), (.imul, 0, 0), (.iload 6, 0, 0), (.iadd, 0, 0), (.iaload, 0, 0), (.iadd, 0, 0), (.istore 7, 0, 0), (.iinc 8 1, 0, 0)] (by decide +kernel) ⟨g_Mo_51, trivial⟩ ⟨o1, o2, ?_⟩
      show Ev (d + 1) M_Mo_product 0 0 230 [(2, v0), (0, v1), (0, v2), (0, v3), (0, v4), (0, v5), (0, v6), (0, iw (v7 + (m (m v0 20) (iw ((iw (25 * v8)) + v6))))), (0, iw (v8 + 1))] [] kd m (zqI kd q)
      refine EvX.goto (off := (-57)) (tgt := 173) (by decide +kernel) (by decide) ?_
      exact h
    · have h := h.2 hc
      obtain ⟨o1, o2, h⟩ := h
      refine EvX.blk (pc' := 208) [(.aload_n 0, 0, 0), (.getfield 51, 8, 20), (.bipush 25, 0, 0), (.iload 8, 0, 0), (.imul, 0, 0), (.iload 6, 0, 0), (.iadd, 0, 0), (.iaload, 0, 0), (.ineg, 0, 0)] (by decide +kernel) ⟨g_Mo_51, trivial⟩ ⟨o1, o2, ?_⟩
      show Ev (d + 1) M_Mo_product 0 0 208 [(2, v0), (0, v1), (0, v2), (0, v3), (0, v4), (0, v5), (0, v6), (0, v7), (0, v8)] [(0, iw (-(m (m v0 20) (iw ((iw (25 * v8)) + v6))))), (0, v7)] kd m (zqI kd q)
      refine EvX.goto (off := 16) (tgt := 224) (by decide +kernel) (by decide) ?_
      refine EvX.blk (pc' := 230) [(.iadd, 0, 0), (.istore 7, 0, 0), (.iinc 8 1, 0, 0)] (by decide +kernel) trivial ?_
      show Ev (d + 1) M_Mo_product 0 0 230 [(2, v0), (0, v1), (0, v2), (0, v3), (0, v4), (0, v5), (0, v6), (0, iw (v7 + (iw (-(m (m v0 20) (iw ((iw (25 * v8)) + v6))))))), (0, iw (v8 + 1))] [] kd m (zqI kd q)
      refine EvX.goto (off := (-57)) (tgt := 173) (by decide +kernel) (by decide) ?_
      exact h
set_option maxRecDepth 20000 in
set_option maxHeartbeats 1000000 in
theorem T_Mo_boxWorth_0 {d : Nat} {kd : ZK} {m : ZM} {q : Int → ZM → Prop} {v0 : Int} (h : (Ev (d + 1) M_Mo_boxWorth 0 0 4 [(2, v0), (0, 0), (0, 0), zJ, zJ, zJ] [] kd m (zqI kd q))) : Ev (d + 1) M_Mo_boxWorth 0 0 0 [(2, v0), zJ, zJ, zJ, zJ, zJ] [] kd m (zqI kd q) := by
  refine EvX.blk (pc' := 4) [(.iconst 0, 0, 0), (.istore_n 1, 0, 0), (.iconst 0, 0, 0), (.istore_n 2, 0, 0)] (by decide +kernel) trivial ?_
  show Ev (d + 1) M_Mo_boxWorth 0 0 4 [(2, v0), (0, 0), (0, 0), zJ, zJ, zJ] [] kd m (zqI kd q)
  exact h
theorem S_Mo_boxWorth {d : Nat} {kd : ZK} {m : ZM} {q : Int → ZM → Prop} {v0 : Int} (h : (Ev (d + 1) M_Mo_boxWorth 0 0 4 [(2, v0), (0, 0), (0, 0), zJ, zJ, zJ] [] kd m (zqI kd q))) : CtI (d + 1) M_Mo_boxWorth [(2, v0)] kd m q :=
  Ct.start k_Mo_boxWorth (Nat.le_of_ble_eq_true rfl) ⟨1, Or.inr (Or.inl ⟨rfl, rfl⟩)⟩ (T_Mo_boxWorth_0 h)
set_option maxRecDepth 20000 in
set_option maxHeartbeats 1000000 in
theorem T_Mo_boxWorth_4 {d : Nat} {kd : ZK} {m : ZM} {q : Int → ZM → Prop} {v0 v1 v2 : Int} (h : (zobj kd v0 8 ∧ ∃ q1, CtI d M_Mo_questions [(2, v0), (0, 0)] kd m q1 ∧ ∀ x2 m3, q1 x2 m3 → ((x2 ≤ v2 → q v1 m3) ∧ (¬ x2 ≤ v2 → (Ev (d + 1) M_Mo_boxWorth 0 0 15 [(2, v0), (0, v1), (0, v2), (0, 0), zJ, zJ] [] kd m3 (zqI kd q)))))) : Ev (d + 1) M_Mo_boxWorth 0 0 4 [(2, v0), (0, v1), (0, v2), zJ, zJ, zJ] [] kd m (zqI kd q) := by
  refine EvX.blk (pc' := 7) [(.iload_n 2, 0, 0), (.aload_n 0, 0, 0), (.iconst 0, 0, 0)] (by decide +kernel) trivial ?_
  show Ev (d + 1) M_Mo_boxWorth 0 0 7 [(2, v0), (0, v1), (0, v2), zJ, zJ, zJ] [(0, 0), (2, v0), (0, v2)] kd m (zqI kd q)
  obtain ⟨ov, h⟩ := h
  obtain ⟨q1, hq, h⟩ := h
  refine EvX.callV (c := 8) (mc := 0) (ms := 0) (as := [(0, 0)]) (st := [(0, v2)]) (by decide +kernel) l_Mo_163 k_Mo_questions v_Mo_questions a_Mo_questions (by decide) (Nat.le_of_ble_eq_true rfl) rfl ov hq (fun r kd1 m3 hr => ?_)
  obtain ⟨x2, rfl, hk, hr⟩ := hr
  subst kd1
  have h := h x2 m3 hr
  show Ev (d + 1) M_Mo_boxWorth 0 0 10 [(2, v0), (0, v1), (0, v2), zJ, zJ, zJ] [(0, x2), (0, v2)] kd m3 (zqI kd q)
  refine EvX.icmp_ge (off := 101) (tgt := 111) (by decide +kernel) (by decide) (fun hc => ?_) (fun hc => ?_)
  · have h := h.1 hc
    refine EvX.blk (pc' := 112) [(.iload_n 1, 0, 0)] (by decide +kernel) trivial ?_
    show Ev (d + 1) M_Mo_boxWorth 0 0 112 [(2, v0), (0, v1), (0, v2), zJ, zJ, zJ] [(0, v1)] kd m3 (zqI kd q)
    exact EvX.ret (r := (0, v1)) (by decide +kernel) rfl ⟨_, rfl, rfl, h⟩
  · have h := h.2 hc
    refine EvX.blk (pc' := 15) [(.iconst 0, 0, 0), (.istore_n 3, 0, 0)] (by decide +kernel) trivial ?_
    show Ev (d + 1) M_Mo_boxWorth 0 0 15 [(2, v0), (0, v1), (0, v2), (0, 0), zJ, zJ] [] kd m3 (zqI kd q)
    exact h
set_option maxRecDepth 20000 in
set_option maxHeartbeats 1000000 in
theorem T_Mo_boxWorth_15 {d : Nat} {kd : ZK} {m : ZM} {q : Int → ZM → Prop} {v0 v1 v2 v3 : Int} (h : (zobj kd v0 8 ∧ ∃ q1, CtI d M_Mo_questions [(2, v0), (0, 1)] kd m q1 ∧ ∀ x2 m3, q1 x2 m3 → ((x2 ≤ v3 → (Ev (d + 1) M_Mo_boxWorth 0 0 4 [(2, v0), (0, v1), (0, iw (v2 + 1)), zJ, zJ, zJ] [] kd m3 (zqI kd q))) ∧ (¬ x2 ≤ v3 → (Ev (d + 1) M_Mo_boxWorth 0 0 27 [(2, v0), (0, v1), (0, v2), (0, v3), (0, 0), zJ] [] kd m3 (zqI kd q)))))) : Ev (d + 1) M_Mo_boxWorth 0 0 15 [(2, v0), (0, v1), (0, v2), (0, v3), zJ, zJ] [] kd m (zqI kd q) := by
  refine EvX.blk (pc' := 18) [(.iload_n 3, 0, 0), (.aload_n 0, 0, 0), (.iconst 1, 0, 0)] (by decide +kernel) trivial ?_
  show Ev (d + 1) M_Mo_boxWorth 0 0 18 [(2, v0), (0, v1), (0, v2), (0, v3), zJ, zJ] [(0, 1), (2, v0), (0, v3)] kd m (zqI kd q)
  obtain ⟨ov, h⟩ := h
  obtain ⟨q1, hq, h⟩ := h
  refine EvX.callV (c := 8) (mc := 0) (ms := 0) (as := [(0, 1)]) (st := [(0, v3)]) (by decide +kernel) l_Mo_163 k_Mo_questions v_Mo_questions a_Mo_questions (by decide) (Nat.le_of_ble_eq_true rfl) rfl ov hq (fun r kd1 m3 hr => ?_)
  obtain ⟨x2, rfl, hk, hr⟩ := hr
  subst kd1
  have h := h x2 m3 hr
  show Ev (d + 1) M_Mo_boxWorth 0 0 21 [(2, v0), (0, v1), (0, v2), (0, v3), zJ, zJ] [(0, x2), (0, v3)] kd m3 (zqI kd q)
  refine EvX.icmp_ge (off := 84) (tgt := 105) (by decide +kernel) (by decide) (fun hc => ?_) (fun hc => ?_)
  · have h := h.1 hc
    refine EvX.blk (pc' := 108) [(.iinc 2 1, 0, 0)] (by decide +kernel) trivial ?_
    show Ev (d + 1) M_Mo_boxWorth 0 0 108 [(2, v0), (0, v1), (0, iw (v2 + 1)), (0, v3), zJ, zJ] [] kd m3 (zqI kd q)
    refine EvX.goto (off := (-104)) (tgt := 4) (by decide +kernel) (by decide) ?_
    exact EvX.weak (ls2 := [(2, v0), (0, v1), (0, iw (v2 + 1)), zJ, zJ, zJ]) (zwk_of ⟨Or.inr rfl, Or.inr rfl, Or.inr rfl, Or.inl rfl, Or.inl rfl, Or.inl rfl, trivial⟩) h
  · have h := h.2 hc
    refine EvX.blk (pc' := 27) [(.iconst 0, 0, 0), (.istore 4, 0, 0)] (by decide +kernel) trivial ?_
    show Ev (d + 1) M_Mo_boxWorth 0 0 27 [(2, v0), (0, v1), (0, v2), (0, v3), (0, 0), zJ] [] kd m3 (zqI kd q)
    exact h
set_option maxRecDepth 20000 in
set_option maxHeartbeats 1000000 in
theorem T_Mo_boxWorth_27 {d : Nat} {kd : ZK} {m : ZM} {q : Int → ZM → Prop} {v0 v1 v2 v3 v4 : Int} (h : (zobj kd v0 8 ∧ ∃ q1, CtI d M_Mo_answers [(2, v0), (0, 0)] kd m q1 ∧ ∀ x2 m3, q1 x2 m3 → ((x2 ≤ v4 → (Ev (d + 1) M_Mo_boxWorth 0 0 15 [(2, v0), (0, v1), (0, v2), (0, iw (v3 + 1)), zJ, zJ] [] kd m3 (zqI kd q))) ∧ (¬ x2 ≤ v4 → (Ev (d + 1) M_Mo_boxWorth 0 0 40 [(2, v0), (0, v1), (0, v2), (0, v3), (0, v4), (0, 0)] [] kd m3 (zqI kd q)))))) : Ev (d + 1) M_Mo_boxWorth 0 0 27 [(2, v0), (0, v1), (0, v2), (0, v3), (0, v4), zJ] [] kd m (zqI kd q) := by
  refine EvX.blk (pc' := 31) [(.iload 4, 0, 0), (.aload_n 0, 0, 0), (.iconst 0, 0, 0)] (by decide +kernel) trivial ?_
  show Ev (d + 1) M_Mo_boxWorth 0 0 31 [(2, v0), (0, v1), (0, v2), (0, v3), (0, v4), zJ] [(0, 0), (2, v0), (0, v4)] kd m (zqI kd q)
  obtain ⟨ov, h⟩ := h
  obtain ⟨q1, hq, h⟩ := h
  refine EvX.callV (c := 8) (mc := 0) (ms := 0) (as := [(0, 0)]) (st := [(0, v4)]) (by decide +kernel) l_Mo_167 k_Mo_answers v_Mo_answers a_Mo_answers (by decide) (Nat.le_of_ble_eq_true rfl) rfl ov hq (fun r kd1 m3 hr => ?_)
  obtain ⟨x2, rfl, hk, hr⟩ := hr
  subst kd1
  have h := h x2 m3 hr
  show Ev (d + 1) M_Mo_boxWorth 0 0 34 [(2, v0), (0, v1), (0, v2), (0, v3), (0, v4), zJ] [(0, x2), (0, v4)] kd m3 (zqI kd q)
  refine EvX.icmp_ge (off := 65) (tgt := 99) (by decide +kernel) (by decide) (fun hc => ?_) (fun hc => ?_)
  · have h := h.1 hc
    refine EvX.blk (pc' := 102) [(.iinc 3 1, 0, 0)] (by decide +kernel) trivial ?_
    show Ev (d + 1) M_Mo_boxWorth 0 0 102 [(2, v0), (0, v1), (0, v2), (0, iw (v3 + 1)), (0, v4), zJ] [] kd m3 (zqI kd q)
    refine EvX.goto (off := (-87)) (tgt := 15) (by decide +kernel) (by decide) ?_
    exact EvX.weak (ls2 := [(2, v0), (0, v1), (0, v2), (0, iw (v3 + 1)), zJ, zJ]) (zwk_of ⟨Or.inr rfl, Or.inr rfl, Or.inr rfl, Or.inr rfl, Or.inl rfl, Or.inl rfl, trivial⟩) h
  · have h := h.2 hc
    refine EvX.blk (pc' := 40) [(.iconst 0, 0, 0), (.istore 5, 0, 0)] (by decide +kernel) trivial ?_
    show Ev (d + 1) M_Mo_boxWorth 0 0 40 [(2, v0), (0, v1), (0, v2), (0, v3), (0, v4), (0, 0)] [] kd m3 (zqI kd q)
    exact h
set_option maxRecDepth 20000 in
set_option maxHeartbeats 1000000 in
theorem T_Mo_boxWorth_40 {d : Nat} {kd : ZK} {m : ZM} {q : Int → ZM → Prop} {v0 v1 v2 v3 v4 v5 : Int} (h : (zobj kd v0 8 ∧ ∃ q1, CtI d M_Mo_answers [(2, v0), (0, 1)] kd m q1 ∧ ∀ x2 m3, q1 x2 m3 → ((x2 ≤ v5 → (Ev (d + 1) M_Mo_boxWorth 0 0 27 [(2, v0), (0, v1), (0, v2), (0, v3), (0, iw (v4 + 1)), zJ] [] kd m3 (zqI kd q))) ∧ (¬ x2 ≤ v5 → (zobj kd v0 8 ∧ ∃ q4, CtI d M_Mo_isWin [(2, v0), (0, v2), (0, v3), (0, v4), (0, v5)] kd m3 q4 ∧ ∀ x5 m6, q4 x5 m6 → ((x5 = 0 → (Ev (d + 1) M_Mo_boxWorth 0 0 40 [(2, v0), (0, iw (v1 + 0)), (0, v2), (0, v3), (0, v4), (0, iw (v5 + 1))] [] kd m6 (zqI kd q))) ∧ (¬ x5 = 0 → (zobj kd v0 8 ∧ ∃ q7, CtI d M_Mo_weightOf [(2, v0), (0, v2), (0, v3)] kd m6 q7 ∧ ∀ x8 m9, q7 x8 m9 → (zobj kd v0 8 ∧ ∃ q10, CtI d M_Mo_boxOf [(2, v0), (0, v2), (0, v3), (0, v4), (0, v5)] kd m9 q10 ∧ ∀ x11 m12, q10 x11 m12 → (Ev (d + 1) M_Mo_boxWorth 0 0 40 [(2, v0), (0, iw (v1 + (iw (x8 * x11)))), (0, v2), (0, v3), (0, v4), (0, iw (v5 + 1))] [] kd m12 (zqI kd q))))))))))) : Ev (d + 1) M_Mo_boxWorth 0 0 40 [(2, v0), (0, v1), (0, v2), (0, v3), (0, v4), (0, v5)] [] kd m (zqI kd q) := by
  refine EvX.blk (pc' := 44) [(.iload 5, 0, 0), (.aload_n 0, 0, 0), (.iconst 1, 0, 0)] (by decide +kernel) trivial ?_
  show Ev (d + 1) M_Mo_boxWorth 0 0 44 [(2, v0), (0, v1), (0, v2), (0, v3), (0, v4), (0, v5)] [(0, 1), (2, v0), (0, v5)] kd m (zqI kd q)
  obtain ⟨ov, h⟩ := h
  obtain ⟨q1, hq, h⟩ := h
  refine EvX.callV (c := 8) (mc := 0) (ms := 0) (as := [(0, 1)]) (st := [(0, v5)]) (by decide +kernel) l_Mo_167 k_Mo_answers v_Mo_answers a_Mo_answers (by decide) (Nat.le_of_ble_eq_true rfl) rfl ov hq (fun r kd1 m3 hr => ?_)
  obtain ⟨x2, rfl, hk, hr⟩ := hr
  subst kd1
  have h := h x2 m3 hr
  show Ev (d + 1) M_Mo_boxWorth 0 0 47 [(2, v0), (0, v1), (0, v2), (0, v3), (0, v4), (0, v5)] [(0, x2), (0, v5)] kd m3 (zqI kd q)
  refine EvX.icmp_ge (off := 46) (tgt := 93) (by decide +kernel) (by decide) (fun hc => ?_) (fun hc => ?_)
  · have h := h.1 hc
    refine EvX.blk (pc' := 96) [(.iinc 4 1, 0, 0)] (by decide +kernel) trivial ?_
    show Ev (d + 1) M_Mo_boxWorth 0 0 96 [(2, v0), (0, v1), (0, v2), (0, v3), (0, iw (v4 + 1)), (0, v5)] [] kd m3 (zqI kd q)
    refine EvX.goto (off := (-69)) (tgt := 27) (by decide +kernel) (by decide) ?_
    exact EvX.weak (ls2 := [(2, v0), (0, v1), (0, v2), (0, v3), (0, iw (v4 + 1)), zJ]) (zwk_of ⟨Or.inr rfl, Or.inr rfl, Or.inr rfl, Or.inr rfl, Or.inr rfl, Or.inl rfl, trivial⟩) h
  · have h := h.2 hc
    refine EvX.blk (pc' := 58) [(.iload_n 1, 0, 0), (.aload_n 0, 0, 0), (.iload_n 2, 0, 0), (.iload_n 3, 0, 0), (.iload 4, 0, 0), (.iload 5, 0, 0)] (by decide +kernel) trivial ?_
    show Ev (d + 1) M_Mo_boxWorth 0 0 58 [(2, v0), (0, v1), (0, v2), (0, v3), (0, v4), (0, v5)] [(0, v5), (0, v4), (0, v3), (0, v2), (2, v0), (0, v1)] kd m3 (zqI kd q)
    obtain ⟨ov, h⟩ := h
    obtain ⟨q4, hq, h⟩ := h
    refine EvX.callV (c := 8) (mc := 0) (ms := 0) (as := [(0, v2), (0, v3), (0, v4), (0, v5)]) (st := [(0, v1)]) (by decide +kernel) l_Mo_197 k_Mo_isWin v_Mo_isWin a_Mo_isWin (by decide) (Nat.le_of_ble_eq_true rfl) rfl ov hq (fun r kd1 m6 hr => ?_)
    obtain ⟨x5, rfl, hk, hr⟩ := hr
    subst kd1
    have h := h x5 m6 hr
    show Ev (d + 1) M_Mo_boxWorth 0 0 61 [(2, v0), (0, v1), (0, v2), (0, v3), (0, v4), (0, v5)] [(0, x5), (0, v1)] kd m6 (zqI kd q)
    refine EvX.if_eq (off := 23) (tgt := 84) (by decide +kernel) (by decide) (fun hc => ?_) (fun hc => ?_)
    · have h := h.1 hc
      refine EvX.blk (pc' := 90) [(.iconst 0, 0, 0), (.iadd, 0, 0), (.istore_n 1, 0, 0), (.iinc 5 1, 0, 0)] (by decide +kernel) trivial ?_
      show Ev (d + 1) M_Mo_boxWorth 0 0 90 [(2, v0), (0, iw (v1 + 0)), (0, v2), (0, v3), (0, v4), (0, iw (v5 + 1))] [] kd m6 (zqI kd q)
      refine EvX.goto (off := (-50)) (tgt := 40) (by decide +kernel) (by decide) ?_
      exact h
    · have h := h.2 hc
      refine EvX.blk (pc' := 67) [(.aload_n 0, 0, 0), (.iload_n 2, 0, 0), (.iload_n 3, 0, 0)] (by decide +kernel) trivial ?_
      show Ev (d + 1) M_Mo_boxWorth 0 0 67 [(2, v0), (0, v1), (0, v2), (0, v3), (0, v4), (0, v5)] [(0, v3), (0, v2), (2, v0), (0, v1)] kd m6 (zqI kd q)
      obtain ⟨ov, h⟩ := h
      obtain ⟨q7, hq, h⟩ := h
      refine EvX.callV (c := 8) (mc := 0) (ms := 0) (as := [(0, v2), (0, v3)]) (st := [(0, v1)]) (by decide +kernel) l_Mo_180 k_Mo_weightOf v_Mo_weightOf a_Mo_weightOf (by decide) (Nat.le_of_ble_eq_true rfl) rfl ov hq (fun r kd1 m9 hr => ?_)
      obtain ⟨x8, rfl, hk, hr⟩ := hr
      subst kd1
      have h := h x8 m9 hr
      show Ev (d + 1) M_Mo_boxWorth 0 0 70 [(2, v0), (0, v1), (0, v2), (0, v3), (0, v4), (0, v5)] [(0, x8), (0, v1)] kd m9 (zqI kd q)
      refine EvX.blk (pc' := 77) [(.aload_n 0, 0, 0), (.iload_n 2, 0, 0), (.iload_n 3, 0, 0), (.iload 4, 0, 0), (.iload 5, 0, 0)] (by decide +kernel) trivial ?_
      show Ev (d + 1) M_Mo_boxWorth 0 0 77 [(2, v0), (0, v1), (0, v2), (0, v3), (0, v4), (0, v5)] [(0, v5), (0, v4), (0, v3), (0, v2), (2, v0), (0, x8), (0, v1)] kd m9 (zqI kd q)
      obtain ⟨ov, h⟩ := h
      obtain ⟨q10, hq, h⟩ := h
      refine EvX.callV (c := 8) (mc := 0) (ms := 0) (as := [(0, v2), (0, v3), (0, v4), (0, v5)]) (st := [(0, x8), (0, v1)]) (by decide +kernel) l_Mo_232 k_Mo_boxOf v_Mo_boxOf a_Mo_boxOf (by decide) (Nat.le_of_ble_eq_true rfl) rfl ov hq (fun r kd1 m12 hr => ?_)
      obtain ⟨x11, rfl, hk, hr⟩ := hr
      subst kd1
      have h := h x11 m12 hr
      show Ev (d + 1) M_Mo_boxWorth 0 0 80 [(2, v0), (0, v1), (0, v2), (0, v3), (0, v4), (0, v5)] [(0, x11), (0, x8), (0, v1)] kd m12 (zqI kd q)
      refine EvX.blk (pc' := 81) [(.imul, 0, 0)] (by decide +kernel) trivial ?_
      show Ev (d + 1) M_Mo_boxWorth 0 0 81 [(2, v0), (0, v1), (0, v2), (0, v3), (0, v4), (0, v5)] [(0, iw (x8 * x11)), (0, v1)] kd m12 (zqI kd q)
      refine EvX.goto (off := 4) (tgt := 85) (by decide +kernel) (by decide) ?_
      refine EvX.blk (pc' := 90) [(.iadd, 0, 0), (.istore_n 1, 0, 0), (.iinc 5 1, 0, 0)] (by decide +kernel) trivial ?_
      show Ev (d + 1) M_Mo_boxWorth 0 0 90 [(2, v0), (0, iw (v1 + (iw (x8 * x11)))), (0, v2), (0, v3), (0, v4), (0, iw (v5 + 1))] [] kd m12 (zqI kd q)
      refine EvX.goto (off := (-50)) (tgt := 40) (by decide +kernel) (by decide) ?_
      exact h
set_option maxRecDepth 20000 in
set_option maxHeartbeats 1000000 in
theorem T_Mo_givenAt_0 {d : Nat} {kd : ZK} {m : ZM} {q : Int → ZM → Prop} {v0 v1 v2 v3 v4 : Int} (h : (Ev (d + 1) M_Mo_givenAt 0 0 6 [(2, v0), (0, v1), (0, v2), (0, v3), (0, v4), (0, 0), (0, 0)] [] kd m (zqI kd q))) : Ev (d + 1) M_Mo_givenAt 0 0 0 [(2, v0), (0, v1), (0, v2), (0, v3), (0, v4), zJ, zJ] [] kd m (zqI kd q) := by
  refine EvX.blk (pc' := 6) [(.iconst 0, 0, 0), (.istore 5, 0, 0), (.iconst 0, 0, 0), (.istore 6, 0, 0)] (by decide +kernel) trivial ?_
  show Ev (d + 1) M_Mo_givenAt 0 0 6 [(2, v0), (0, v1), (0, v2), (0, v3), (0, v4), (0, 0), (0, 0)] [] kd m (zqI kd q)
  exact h
theorem S_Mo_givenAt {d : Nat} {kd : ZK} {m : ZM} {q : Int → ZM → Prop} {v0 v1 v2 v3 v4 : Int} (h : (Ev (d + 1) M_Mo_givenAt 0 0 6 [(2, v0), (0, v1), (0, v2), (0, v3), (0, v4), (0, 0), (0, 0)] [] kd m (zqI kd q))) : CtI (d + 1) M_Mo_givenAt [(2, v0), (0, v1), (0, v2), (0, v3), (0, v4)] kd m q :=
  Ct.start k_Mo_givenAt (Nat.le_of_ble_eq_true rfl) ⟨1, Or.inr (Or.inl ⟨rfl, rfl⟩)⟩ (T_Mo_givenAt_0 h)
set_option maxRecDepth 20000 in
set_option maxHeartbeats 1000000 in
theorem T_Mo_givenAt_6 {d : Nat} {kd : ZK} {m : ZM} {q : Int → ZM → Prop} {v0 v1 v2 v3 v4 v5 v6 : Int} (h : (zobj kd v0 8 ∧ ∃ q1, CtI d M_Mo_answers [(2, v0), (0, iw (1 - v1))] kd m q1 ∧ ∀ x2 m3, q1 x2 m3 → ((x2 ≤ v6 → q v5 m3) ∧ (¬ x2 ≤ v6 → (zobj kd v0 8 ∧ ∃ q4, CtI d M_Mo_seen [(2, v0), (0, v1), (0, 429), (0, v2), (0, v4), (0, v3), (0, v6)] kd m3 q4 ∧ ∀ x5 m6, q4 x5 m6 → (Ev (d + 1) M_Mo_givenAt 0 0 6 [(2, v0), (0, v1), (0, v2), (0, v3), (0, v4), (0, iw (v5 + x5)), (0, iw (v6 + 1))] [] kd m6 (zqI kd q))))))) : Ev (d + 1) M_Mo_givenAt 0 0 6 [(2, v0), (0, v1), (0, v2), (0, v3), (0, v4), (0, v5), (0, v6)] [] kd m (zqI kd q) := by
  refine EvX.blk (pc' := 12) [(.iload 6, 0, 0), (.aload_n 0, 0, 0), (.iconst 1, 0, 0), (.iload_n 1, 0, 0), (.isub, 0, 0)] (by decide +kernel) trivial ?_
  show Ev (d + 1) M_Mo_givenAt 0 0 12 [(2, v0), (0, v1), (0, v2), (0, v3), (0, v4), (0, v5), (0, v6)] [(0, iw (1 - v1)), (2, v0), (0, v6)] kd m (zqI kd q)
  obtain ⟨ov, h⟩ := h
  obtain ⟨q1, hq, h⟩ := h
  refine EvX.callV (c := 8) (mc := 0) (ms := 0) (as := [(0, iw (1 - v1))]) (st := [(0, v6)]) (by decide +kernel) l_Mo_167 k_Mo_answers v_Mo_answers a_Mo_answers (by decide) (Nat.le_of_ble_eq_true rfl) rfl ov hq (fun r kd1 m3 hr => ?_)
  obtain ⟨x2, rfl, hk, hr⟩ := hr
  subst kd1
  have h := h x2 m3 hr
  show Ev (d + 1) M_Mo_givenAt 0 0 15 [(2, v0), (0, v1), (0, v2), (0, v3), (0, v4), (0, v5), (0, v6)] [(0, x2), (0, v6)] kd m3 (zqI kd q)
  refine EvX.icmp_ge (off := 28) (tgt := 43) (by decide +kernel) (by decide) (fun hc => ?_) (fun hc => ?_)
  · have h := h.1 hc
    refine EvX.blk (pc' := 45) [(.iload 5, 0, 0)] (by decide +kernel) trivial ?_
    show Ev (d + 1) M_Mo_givenAt 0 0 45 [(2, v0), (0, v1), (0, v2), (0, v3), (0, v4), (0, v5), (0, v6)] [(0, v5)] kd m3 (zqI kd q)
    exact EvX.ret (r := (0, v5)) (by decide +kernel) rfl ⟨_, rfl, rfl, h⟩
  · have h := h.2 hc
    refine EvX.blk (pc' := 31) [(.iload 5, 0, 0), (.aload_n 0, 0, 0), (.iload_n 1, 0, 0), (.sipush 429, 0, 0), (.iload_n 2, 0, 0), (.iload 4, 0, 0), (.iload_n 3, 0, 0), (.iload 6, 0, 0)] (by decide +kernel) trivial ?_
    show Ev (d + 1) M_Mo_givenAt 0 0 31 [(2, v0), (0, v1), (0, v2), (0, v3), (0, v4), (0, v5), (0, v6)] [(0, v6), (0, v3), (0, v4), (0, v2), (0, 429), (0, v1), (2, v0), (0, v5)] kd m3 (zqI kd q)
    obtain ⟨ov, h⟩ := h
    obtain ⟨q4, hq, h⟩ := h
    refine EvX.callV (c := 8) (mc := 0) (ms := 0) (as := [(0, v1), (0, 429), (0, v2), (0, v4), (0, v3), (0, v6)]) (st := [(0, v5)]) (by decide +kernel) l_Mo_245 k_Mo_seen v_Mo_seen a_Mo_seen (by decide) (Nat.le_of_ble_eq_true rfl) rfl ov hq (fun r kd1 m6 hr => ?_)
    obtain ⟨x5, rfl, hk, hr⟩ := hr
    subst kd1
    have h := h x5 m6 hr
    show Ev (d + 1) M_Mo_givenAt 0 0 34 [(2, v0), (0, v1), (0, v2), (0, v3), (0, v4), (0, v5), (0, v6)] [(0, x5), (0, v5)] kd m6 (zqI kd q)
    refine EvX.blk (pc' := 40) [(.iadd, 0, 0), (.istore 5, 0, 0), (.iinc 6 1, 0, 0)] (by decide +kernel) trivial ?_
    show Ev (d + 1) M_Mo_givenAt 0 0 40 [(2, v0), (0, v1), (0, v2), (0, v3), (0, v4), (0, iw (v5 + x5)), (0, iw (v6 + 1))] [] kd m6 (zqI kd q)
    refine EvX.goto (off := (-34)) (tgt := 6) (by decide +kernel) (by decide) ?_
    exact h
set_option maxRecDepth 20000 in
set_option maxHeartbeats 1000000 in
theorem T_Mo_isWhole_0 {d : Nat} {kd : ZK} {m : ZM} {q : Int → ZM → Prop} {v0 : Int} (h : (Ev (d + 1) M_Mo_isWhole 0 0 4 [(2, v0), (0, 1), (0, 0), zJ, zJ, zJ] [] kd m (zqI kd q))) : Ev (d + 1) M_Mo_isWhole 0 0 0 [(2, v0), zJ, zJ, zJ, zJ, zJ] [] kd m (zqI kd q) := by
  refine EvX.blk (pc' := 4) [(.iconst 1, 0, 0), (.istore_n 1, 0, 0), (.iconst 0, 0, 0), (.istore_n 2, 0, 0)] (by decide +kernel) trivial ?_
  show Ev (d + 1) M_Mo_isWhole 0 0 4 [(2, v0), (0, 1), (0, 0), zJ, zJ, zJ] [] kd m (zqI kd q)
  exact h
theorem S_Mo_isWhole {d : Nat} {kd : ZK} {m : ZM} {q : Int → ZM → Prop} {v0 : Int} (h : (Ev (d + 1) M_Mo_isWhole 0 0 4 [(2, v0), (0, 1), (0, 0), zJ, zJ, zJ] [] kd m (zqI kd q))) : CtI (d + 1) M_Mo_isWhole [(2, v0)] kd m q :=
  Ct.start k_Mo_isWhole (Nat.le_of_ble_eq_true rfl) ⟨2, Or.inr (Or.inr (Or.inl ⟨rfl, rfl⟩))⟩ (T_Mo_isWhole_0 h)
set_option maxRecDepth 20000 in
set_option maxHeartbeats 1000000 in
theorem T_Mo_isWhole_4 {d : Nat} {kd : ZK} {m : ZM} {q : Int → ZM → Prop} {v0 v1 v2 : Int} (h : (zobj kd v0 8 ∧ ∃ q1, CtI d M_Mo_questions [(2, v0), (0, 0)] kd m q1 ∧ ∀ x2 m3, q1 x2 m3 → ((x2 ≤ v2 → ((0 ≤ v1 ∧ v1 ≤ 1) ∧ q v1 m3)) ∧ (¬ x2 ≤ v2 → (Ev (d + 1) M_Mo_isWhole 0 0 15 [(2, v0), (0, v1), (0, v2), (0, 0), zJ, zJ] [] kd m3 (zqI kd q)))))) : Ev (d + 1) M_Mo_isWhole 0 0 4 [(2, v0), (0, v1), (0, v2), zJ, zJ, zJ] [] kd m (zqI kd q) := by
  refine EvX.blk (pc' := 7) [(.iload_n 2, 0, 0), (.aload_n 0, 0, 0), (.iconst 0, 0, 0)] (by decide +kernel) trivial ?_
  show Ev (d + 1) M_Mo_isWhole 0 0 7 [(2, v0), (0, v1), (0, v2), zJ, zJ, zJ] [(0, 0), (2, v0), (0, v2)] kd m (zqI kd q)
  obtain ⟨ov, h⟩ := h
  obtain ⟨q1, hq, h⟩ := h
  refine EvX.callV (c := 8) (mc := 0) (ms := 0) (as := [(0, 0)]) (st := [(0, v2)]) (by decide +kernel) l_Mo_163 k_Mo_questions v_Mo_questions a_Mo_questions (by decide) (Nat.le_of_ble_eq_true rfl) rfl ov hq (fun r kd1 m3 hr => ?_)
  obtain ⟨x2, rfl, hk, hr⟩ := hr
  subst kd1
  have h := h x2 m3 hr
  show Ev (d + 1) M_Mo_isWhole 0 0 10 [(2, v0), (0, v1), (0, v2), zJ, zJ, zJ] [(0, x2), (0, v2)] kd m3 (zqI kd q)
  refine EvX.icmp_ge (off := 79) (tgt := 89) (by decide +kernel) (by decide) (fun hc => ?_) (fun hc => ?_)
  · have h := h.1 hc
    refine EvX.blk (pc' := 90) [(.iload_n 1, 0, 0)] (by decide +kernel) trivial ?_
    show Ev (d + 1) M_Mo_isWhole 0 0 90 [(2, v0), (0, v1), (0, v2), zJ, zJ, zJ] [(0, v1)] kd m3 (zqI kd q)
    exact EvX.ret (r := (0, v1)) (by decide +kernel) ⟨rfl, h.1.1, h.1.2⟩ ⟨_, rfl, rfl, h.2⟩
  · have h := h.2 hc
    refine EvX.blk (pc' := 15) [(.iconst 0, 0, 0), (.istore_n 3, 0, 0)] (by decide +kernel) trivial ?_
    show Ev (d + 1) M_Mo_isWhole 0 0 15 [(2, v0), (0, v1), (0, v2), (0, 0), zJ, zJ] [] kd m3 (zqI kd q)
    exact h
set_option maxRecDepth 20000 in
set_option maxHeartbeats 1000000 in
theorem T_Mo_isWhole_15 {d : Nat} {kd : ZK} {m : ZM} {q : Int → ZM → Prop} {v0 v1 v2 v3 : Int} (h : (zobj kd v0 8 ∧ ∃ q1, CtI d M_Mo_questions [(2, v0), (0, 1)] kd m q1 ∧ ∀ x2 m3, q1 x2 m3 → ((x2 ≤ v3 → (Ev (d + 1) M_Mo_isWhole 0 0 4 [(2, v0), (0, v1), (0, iw (v2 + 1)), zJ, zJ, zJ] [] kd m3 (zqI kd q))) ∧ (¬ x2 ≤ v3 → (Ev (d + 1) M_Mo_isWhole 0 0 30 [(2, v0), (0, v1), (0, v2), (0, v3), (0, 0), (0, 0)] [] kd m3 (zqI kd q)))))) : Ev (d + 1) M_Mo_isWhole 0 0 15 [(2, v0), (0, v1), (0, v2), (0, v3), zJ, zJ] [] kd m (zqI kd q) := by
  refine EvX.blk (pc' := 18) [(.iload_n 3, 0, 0), (.aload_n 0, 0, 0), (.iconst 1, 0, 0)] (by decide +kernel) trivial ?_
  show Ev (d + 1) M_Mo_isWhole 0 0 18 [(2, v0), (0, v1), (0, v2), (0, v3), zJ, zJ] [(0, 1), (2, v0), (0, v3)] kd m (zqI kd q)
  obtain ⟨ov, h⟩ := h
  obtain ⟨q1, hq, h⟩ := h
  refine EvX.callV (c := 8) (mc := 0) (ms := 0) (as := [(0, 1)]) (st := [(0, v3)]) (by decide +kernel) l_Mo_163 k_Mo_questions v_Mo_questions a_Mo_questions (by decide) (Nat.le_of_ble_eq_true rfl) rfl ov hq (fun r kd1 m3 hr => ?_)
  obtain ⟨x2, rfl, hk, hr⟩ := hr
  subst kd1
  have h := h x2 m3 hr
  show Ev (d + 1) M_Mo_isWhole 0 0 21 [(2, v0), (0, v1), (0, v2), (0, v3), zJ, zJ] [(0, x2), (0, v3)] kd m3 (zqI kd q)
  refine EvX.icmp_ge (off := 62) (tgt := 83) (by decide +kernel) (by decide) (fun hc => ?_) (fun hc => ?_)
  · have h := h.1 hc
    refine EvX.blk (pc' := 86) [(.iinc 2 1, 0, 0)] (by decide +kernel) trivial ?_
    show Ev (d + 1) M_Mo_isWhole 0 0 86 [(2, v0), (0, v1), (0, iw (v2 + 1)), (0, v3), zJ, zJ] [] kd m3 (zqI kd q)
    refine EvX.goto (off := (-82)) (tgt := 4) (by decide +kernel) (by decide) ?_
    exact EvX.weak (ls2 := [(2, v0), (0, v1), (0, iw (v2 + 1)), zJ, zJ, zJ]) (zwk_of ⟨Or.inr rfl, Or.inr rfl, Or.inr rfl, Or.inl rfl, Or.inl rfl, Or.inl rfl, trivial⟩) h
  · have h := h.2 hc
    refine EvX.blk (pc' := 30) [(.iconst 0, 0, 0), (.istore 4, 0, 0), (.iconst 0, 0, 0), (.istore 5, 0, 0)] (by decide +kernel) trivial ?_
    show Ev (d + 1) M_Mo_isWhole 0 0 30 [(2, v0), (0, v1), (0, v2), (0, v3), (0, 0), (0, 0)] [] kd m3 (zqI kd q)
    exact h
set_option maxRecDepth 20000 in
set_option maxHeartbeats 1000000 in
theorem T_Mo_isWhole_30 {d : Nat} {kd : ZK} {m : ZM} {q : Int → ZM → Prop} {v0 v1 v2 v3 v4 v5 : Int} (h : (zobj kd v0 8 ∧ ∃ q1, CtI d M_Mo_answers [(2, v0), (0, 0)] kd m q1 ∧ ∀ x2 m3, q1 x2 m3 → ((x2 ≤ v5 → ((v1 = 0 → (Ev (d + 1) M_Mo_isWhole 0 0 15 [(2, v0), (0, 0), (0, v2), (0, iw (v3 + 1)), zJ, zJ] [] kd m3 (zqI kd q))) ∧ (¬ v1 = 0 → ((v4 ≠ 12 → (Ev (d + 1) M_Mo_isWhole 0 0 15 [(2, v0), (0, 0), (0, v2), (0, iw (v3 + 1)), zJ, zJ] [] kd m3 (zqI kd q))) ∧ (¬ v4 ≠ 12 → (Ev (d + 1) M_Mo_isWhole 0 0 15 [(2, v0), (0, 1), (0, v2), (0, iw (v3 + 1)), zJ, zJ] [] kd m3 (zqI kd q))))))) ∧ (¬ x2 ≤ v5 → (zobj kd v0 8 ∧ ∃ q4, CtI d M_Mo_givenAt [(2, v0), (0, 0), (0, v2), (0, v5), (0, v3)] kd m3 q4 ∧ ∀ x5 m6, q4 x5 m6 → (Ev (d + 1) M_Mo_isWhole 0 0 30 [(2, v0), (0, v1), (0, v2), (0, v3), (0, iw (v4 + x5)), (0, iw (v5 + 1))] [] kd m6 (zqI kd q))))))) : Ev (d + 1) M_Mo_isWhole 0 0 30 [(2, v0), (0, v1), (0, v2), (0, v3), (0, v4), (0, v5)] [] kd m (zqI kd q) := by
  refine EvX.blk (pc' := 34) [(.iload 5, 0, 0), (.aload_n 0, 0, 0), (.iconst 0, 0, 0)] (by decide +kernel) trivial ?_
  show Ev (d + 1) M_Mo_isWhole 0 0 34 [(2, v0), (0, v1), (0, v2), (0, v3), (0, v4), (0, v5)] [(0, 0), (2, v0), (0, v5)] kd m (zqI kd q)
  obtain ⟨ov, h⟩ := h
  obtain ⟨q1, hq, h⟩ := h
  refine EvX.callV (c := 8) (mc := 0) (ms := 0) (as := [(0, 0)]) (st := [(0, v5)]) (by decide +kernel) l_Mo_167 k_Mo_answers v_Mo_answers a_Mo_answers (by decide) (Nat.le_of_ble_eq_true rfl) rfl ov hq (fun r kd1 m3 hr => ?_)
  obtain ⟨x2, rfl, hk, hr⟩ := hr
  subst kd1
  have h := h x2 m3 hr
  show Ev (d + 1) M_Mo_isWhole 0 0 37 [(2, v0), (0, v1), (0, v2), (0, v3), (0, v4), (0, v5)] [(0, x2), (0, v5)] kd m3 (zqI kd q)
  refine EvX.icmp_ge (off := 23) (tgt := 60) (by decide +kernel) (by decide) (fun hc => ?_) (fun hc => ?_)
  · have h := h.1 hc
    refine EvX.blk (pc' := 61) [(.iload_n 1, 0, 0)] (by decide +kernel) trivial ?_
    show Ev (d + 1) M_Mo_isWhole 0 0 61 [(2, v0), (0, v1), (0, v2), (0, v3), (0, v4), (0, v5)] [(0, v1)] kd m3 (zqI kd q)
    refine EvX.if_eq (off := 14) (tgt := 75) (by decide +kernel) (by decide) (fun hc => ?_) (fun hc => ?_)
    · have h := h.1 hc
      refine EvX.blk (pc' := 80) [(.iconst 0, 0, 0), (.istore_n 1, 0, 0), (.iinc 3 1, 0, 0)] (by decide +kernel) trivial ?_
      show Ev (d + 1) M_Mo_isWhole 0 0 80 [(2, v0), (0, 0), (0, v2), (0, iw (v3 + 1)), (0, v4), (0, v5)] [] kd m3 (zqI kd q)
      refine EvX.goto (off := (-65)) (tgt := 15) (by decide +kernel) (by decide) ?_
      exact EvX.weak (ls2 := [(2, v0), (0, 0), (0, v2), (0, iw (v3 + 1)), zJ, zJ]) (zwk_of ⟨Or.inr rfl, Or.inr rfl, Or.inr rfl, Or.inr rfl, Or.inl rfl, Or.inl rfl, trivial⟩) h
    · have h := h.2 hc
      refine EvX.blk (pc' := 68) [(.iload 4, 0, 0), (.bipush 12, 0, 0)] (by decide +kernel) trivial ?_
      show Ev (d + 1) M_Mo_isWhole 0 0 68 [(2, v0), (0, v1), (0, v2), (0, v3), (0, v4), (0, v5)] [(0, 12), (0, v4)] kd m3 (zqI kd q)
      refine EvX.icmp_ne (off := 7) (tgt := 75) (by decide +kernel) (by decide) (fun hc => ?_) (fun hc => ?_)
      · have h := h.1 hc
        refine EvX.blk (pc' := 80) [(.iconst 0, 0, 0), (.istore_n 1, 0, 0), (.iinc 3 1, 0, 0)] (by decide +kernel) trivial ?_
        show Ev (d + 1) M_Mo_isWhole 0 0 80 [(2, v0), (0, 0), (0, v2), (0, iw (v3 + 1)), (0, v4), (0, v5)] [] kd m3 (zqI kd q)
        refine EvX.goto (off := (-65)) (tgt := 15) (by decide +kernel) (by decide) ?_
        exact EvX.weak (ls2 := [(2, v0), (0, 0), (0, v2), (0, iw (v3 + 1)), zJ, zJ]) (zwk_of ⟨Or.inr rfl, Or.inr rfl, Or.inr rfl, Or.inr rfl, Or.inl rfl, Or.inl rfl, trivial⟩) h
      · have h := h.2 hc
        refine EvX.blk (pc' := 72) [(.iconst 1, 0, 0)] (by decide +kernel) trivial ?_
        show Ev (d + 1) M_Mo_isWhole 0 0 72 [(2, v0), (0, v1), (0, v2), (0, v3), (0, v4), (0, v5)] [(0, 1)] kd m3 (zqI kd q)
        refine EvX.goto (off := 4) (tgt := 76) (by decide +kernel) (by decide) ?_
        refine EvX.blk (pc' := 80) [(.istore_n 1, 0, 0), (.iinc 3 1, 0, 0)] (by decide +kernel) trivial ?_
        show Ev (d + 1) M_Mo_isWhole 0 0 80 [(2, v0), (0, 1), (0, v2), (0, iw (v3 + 1)), (0, v4), (0, v5)] [] kd m3 (zqI kd q)
        refine EvX.goto (off := (-65)) (tgt := 15) (by decide +kernel) (by decide) ?_
        exact EvX.weak (ls2 := [(2, v0), (0, 1), (0, v2), (0, iw (v3 + 1)), zJ, zJ]) (zwk_of ⟨Or.inr rfl, Or.inr rfl, Or.inr rfl, Or.inr rfl, Or.inl rfl, Or.inl rfl, trivial⟩) h
  · have h := h.2 hc
    refine EvX.blk (pc' := 48) [(.iload 4, 0, 0), (.aload_n 0, 0, 0), (.iconst 0, 0, 0), (.iload_n 2, 0, 0), (.iload 5, 0, 0), (.iload_n 3, 0, 0)] (by decide +kernel) trivial ?_
    show Ev (d + 1) M_Mo_isWhole 0 0 48 [(2, v0), (0, v1), (0, v2), (0, v3), (0, v4), (0, v5)] [(0, v3), (0, v5), (0, v2), (0, 0), (2, v0), (0, v4)] kd m3 (zqI kd q)
    obtain ⟨ov, h⟩ := h
    obtain ⟨q4, hq, h⟩ := h
    refine EvX.callV (c := 8) (mc := 0) (ms := 0) (as := [(0, 0), (0, v2), (0, v5), (0, v3)]) (st := [(0, v4)]) (by decide +kernel) l_Mo_361 k_Mo_givenAt v_Mo_givenAt a_Mo_givenAt (by decide) (Nat.le_of_ble_eq_true rfl) rfl ov hq (fun r kd1 m6 hr => ?_)
    obtain ⟨x5, rfl, hk, hr⟩ := hr
    subst kd1
    have h := h x5 m6 hr
    show Ev (d + 1) M_Mo_isWhole 0 0 51 [(2, v0), (0, v1), (0, v2), (0, v3), (0, v4), (0, v5)] [(0, x5), (0, v4)] kd m6 (zqI kd q)
    refine EvX.blk (pc' := 57) [(.iadd, 0, 0), (.istore 4, 0, 0), (.iinc 5 1, 0, 0)] (by decide +kernel) trivial ?_
    show Ev (d + 1) M_Mo_isWhole 0 0 57 [(2, v0), (0, v1), (0, v2), (0, v3), (0, iw (v4 + x5)), (0, iw (v5 + 1))] [] kd m6 (zqI kd q)
    refine EvX.goto (off := (-27)) (tgt := 30) (by decide +kernel) (by decide) ?_
    exact h
set_option maxRecDepth 20000 in
set_option maxHeartbeats 1000000 in
theorem T_Mo_signals_0 {d : Nat} {kd : ZK} {m : ZM} {q : Int → ZM → Prop} {v0 v1 : Int} (h : (Ev (d + 1) M_Mo_signals 0 0 2 [(2, v0), (0, v1), (0, 0), zJ, zJ] [] kd m (zqI kd q))) : Ev (d + 1) M_Mo_signals 0 0 0 [(2, v0), (0, v1), zJ, zJ, zJ] [] kd m (zqI kd q) := by
  refine EvX.blk (pc' := 2) [(.iconst 0, 0, 0), (.istore_n 2, 0, 0)] (by decide +kernel) trivial ?_
  show Ev (d + 1) M_Mo_signals 0 0 2 [(2, v0), (0, v1), (0, 0), zJ, zJ] [] kd m (zqI kd q)
  exact h
theorem S_Mo_signals {d : Nat} {kd : ZK} {m : ZM} {q : Int → ZM → Prop} {v0 v1 : Int} (h : (Ev (d + 1) M_Mo_signals 0 0 2 [(2, v0), (0, v1), (0, 0), zJ, zJ] [] kd m (zqI kd q))) : CtI (d + 1) M_Mo_signals [(2, v0), (0, v1)] kd m q :=
  Ct.start k_Mo_signals (Nat.le_of_ble_eq_true rfl) ⟨2, Or.inr (Or.inr (Or.inl ⟨rfl, rfl⟩))⟩ (T_Mo_signals_0 h)
set_option maxRecDepth 20000 in
set_option maxHeartbeats 1000000 in
theorem T_Mo_signals_2 {d : Nat} {kd : ZK} {m : ZM} {q : Int → ZM → Prop} {v0 v1 v2 : Int} (h : (zobj kd v0 8 ∧ ∃ q1, CtI d M_Mo_questions [(2, v0), (0, v1)] kd m q1 ∧ ∀ x2 m3, q1 x2 m3 → ((x2 ≤ v2 → q 0 m3) ∧ (¬ x2 ≤ v2 → (Ev (d + 1) M_Mo_signals 0 0 13 [(2, v0), (0, v1), (0, v2), (0, 0), zJ] [] kd m3 (zqI kd q)))))) : Ev (d + 1) M_Mo_signals 0 0 2 [(2, v0), (0, v1), (0, v2), zJ, zJ] [] kd m (zqI kd q) := by
  refine EvX.blk (pc' := 5) [(.iload_n 2, 0, 0), (.aload_n 0, 0, 0), (.iload_n 1, 0, 0)] (by decide +kernel) trivial ?_
  show Ev (d + 1) M_Mo_signals 0 0 5 [(2, v0), (0, v1), (0, v2), zJ, zJ] [(0, v1), (2, v0), (0, v2)] kd m (zqI kd q)
  obtain ⟨ov, h⟩ := h
  obtain ⟨q1, hq, h⟩ := h
  refine EvX.callV (c := 8) (mc := 0) (ms := 0) (as := [(0, v1)]) (st := [(0, v2)]) (by decide +kernel) l_Mo_163 k_Mo_questions v_Mo_questions a_Mo_questions (by decide) (Nat.le_of_ble_eq_true rfl) rfl ov hq (fun r kd1 m3 hr => ?_)
  obtain ⟨x2, rfl, hk, hr⟩ := hr
  subst kd1
  have h := h x2 m3 hr
  show Ev (d + 1) M_Mo_signals 0 0 8 [(2, v0), (0, v1), (0, v2), zJ, zJ] [(0, x2), (0, v2)] kd m3 (zqI kd q)
  refine EvX.icmp_ge (off := 69) (tgt := 77) (by decide +kernel) (by decide) (fun hc => ?_) (fun hc => ?_)
  · have h := h.1 hc
    refine EvX.blk (pc' := 78) [(.iconst 0, 0, 0)] (by decide +kernel) trivial ?_
    show Ev (d + 1) M_Mo_signals 0 0 78 [(2, v0), (0, v1), (0, v2), zJ, zJ] [(0, 0)] kd m3 (zqI kd q)
    exact EvX.ret (r := (0, 0)) (by decide +kernel) ⟨rfl, by decide, by decide⟩ ⟨_, rfl, rfl, h⟩
  · have h := h.2 hc
    refine EvX.blk (pc' := 13) [(.iconst 0, 0, 0), (.istore_n 3, 0, 0)] (by decide +kernel) trivial ?_
    show Ev (d + 1) M_Mo_signals 0 0 13 [(2, v0), (0, v1), (0, v2), (0, 0), zJ] [] kd m3 (zqI kd q)
    exact h
set_option maxRecDepth 20000 in
set_option maxHeartbeats 1000000 in
theorem T_Mo_signals_13 {d : Nat} {kd : ZK} {m : ZM} {q : Int → ZM → Prop} {v0 v1 v2 v3 : Int} (h : (zobj kd v0 8 ∧ ∃ q1, CtI d M_Mo_answers [(2, v0), (0, v1)] kd m q1 ∧ ∀ x2 m3, q1 x2 m3 → ((x2 ≤ v3 → (Ev (d + 1) M_Mo_signals 0 0 2 [(2, v0), (0, v1), (0, iw (v2 + 1)), zJ, zJ] [] kd m3 (zqI kd q))) ∧ (¬ x2 ≤ v3 → (Ev (d + 1) M_Mo_signals 0 0 25 [(2, v0), (0, v1), (0, v2), (0, v3), (0, 1)] [] kd m3 (zqI kd q)))))) : Ev (d + 1) M_Mo_signals 0 0 13 [(2, v0), (0, v1), (0, v2), (0, v3), zJ] [] kd m (zqI kd q) := by
  refine EvX.blk (pc' := 16) [(.iload_n 3, 0, 0), (.aload_n 0, 0, 0), (.iload_n 1, 0, 0)] (by decide +kernel) trivial ?_
  show Ev (d + 1) M_Mo_signals 0 0 16 [(2, v0), (0, v1), (0, v2), (0, v3), zJ] [(0, v1), (2, v0), (0, v3)] kd m (zqI kd q)
  obtain ⟨ov, h⟩ := h
  obtain ⟨q1, hq, h⟩ := h
  refine EvX.callV (c := 8) (mc := 0) (ms := 0) (as := [(0, v1)]) (st := [(0, v3)]) (by decide +kernel) l_Mo_167 k_Mo_answers v_Mo_answers a_Mo_answers (by decide) (Nat.le_of_ble_eq_true rfl) rfl ov hq (fun r kd1 m3 hr => ?_)
  obtain ⟨x2, rfl, hk, hr⟩ := hr
  subst kd1
  have h := h x2 m3 hr
  show Ev (d + 1) M_Mo_signals 0 0 19 [(2, v0), (0, v1), (0, v2), (0, v3), zJ] [(0, x2), (0, v3)] kd m3 (zqI kd q)
  refine EvX.icmp_ge (off := 52) (tgt := 71) (by decide +kernel) (by decide) (fun hc => ?_) (fun hc => ?_)
  · have h := h.1 hc
    refine EvX.blk (pc' := 74) [(.iinc 2 1, 0, 0)] (by decide +kernel) trivial ?_
    show Ev (d + 1) M_Mo_signals 0 0 74 [(2, v0), (0, v1), (0, iw (v2 + 1)), (0, v3), zJ] [] kd m3 (zqI kd q)
    refine EvX.goto (off := (-72)) (tgt := 2) (by decide +kernel) (by decide) ?_
    exact EvX.weak (ls2 := [(2, v0), (0, v1), (0, iw (v2 + 1)), zJ, zJ]) (zwk_of ⟨Or.inr rfl, Or.inr rfl, Or.inr rfl, Or.inl rfl, Or.inl rfl, trivial⟩) h
  · have h := h.2 hc
    refine EvX.blk (pc' := 25) [(.iconst 1, 0, 0), (.istore 4, 0, 0)] (by decide +kernel) trivial ?_
    show Ev (d + 1) M_Mo_signals 0 0 25 [(2, v0), (0, v1), (0, v2), (0, v3), (0, 1)] [] kd m3 (zqI kd q)
    exact h
set_option maxRecDepth 20000 in
set_option maxHeartbeats 1000000 in
theorem T_Mo_signals_25 {d : Nat} {kd : ZK} {m : ZM} {q : Int → ZM → Prop} {v0 v1 v2 v3 v4 : Int} (h : (zobj kd v0 8 ∧ ∃ q1, CtI d M_Mo_questions [(2, v0), (0, iw (1 - v1))] kd m q1 ∧ ∀ x2 m3, q1 x2 m3 → ((x2 ≤ v4 → (Ev (d + 1) M_Mo_signals 0 0 13 [(2, v0), (0, v1), (0, v2), (0, iw (v3 + 1)), zJ] [] kd m3 (zqI kd q))) ∧ (¬ x2 ≤ v4 → (zobj kd v0 8 ∧ ∃ q4, CtI d M_Mo_givenAt [(2, v0), (0, v1), (0, v2), (0, v3), (0, v4)] kd m3 q4 ∧ ∀ x5 m6, q4 x5 m6 → (zobj kd v0 8 ∧ ∃ q7, CtI d M_Mo_givenAt [(2, v0), (0, v1), (0, v2), (0, v3), (0, 0)] kd m6 q7 ∧ ∀ x8 m9, q7 x8 m9 → ((x5 = x8 → (Ev (d + 1) M_Mo_signals 0 0 25 [(2, v0), (0, v1), (0, v2), (0, v3), (0, iw (v4 + 1))] [] kd m9 (zqI kd q))) ∧ (¬ x5 = x8 → q 1 m9)))))))) : Ev (d + 1) M_Mo_signals 0 0 25 [(2, v0), (0, v1), (0, v2), (0, v3), (0, v4)] [] kd m (zqI kd q) := by
  refine EvX.blk (pc' := 31) [(.iload 4, 0, 0), (.aload_n 0, 0, 0), (.iconst 1, 0, 0), (.iload_n 1, 0, 0), (.isub, 0, 0)] (by decide +kernel) trivial ?_
  show Ev (d + 1) M_Mo_signals 0 0 31 [(2, v0), (0, v1), (0, v2), (0, v3), (0, v4)] [(0, iw (1 - v1)), (2, v0), (0, v4)] kd m (zqI kd q)
  obtain ⟨ov, h⟩ := h
  obtain ⟨q1, hq, h⟩ := h
  refine EvX.callV (c := 8) (mc := 0) (ms := 0) (as := [(0, iw (1 - v1))]) (st := [(0, v4)]) (by decide +kernel) l_Mo_163 k_Mo_questions v_Mo_questions a_Mo_questions (by decide) (Nat.le_of_ble_eq_true rfl) rfl ov hq (fun r kd1 m3 hr => ?_)
  obtain ⟨x2, rfl, hk, hr⟩ := hr
  subst kd1
  have h := h x2 m3 hr
  show Ev (d + 1) M_Mo_signals 0 0 34 [(2, v0), (0, v1), (0, v2), (0, v3), (0, v4)] [(0, x2), (0, v4)] kd m3 (zqI kd q)
  refine EvX.icmp_ge (off := 31) (tgt := 65) (by decide +kernel) (by decide) (fun hc => ?_) (fun hc => ?_)
  · have h := h.1 hc
    refine EvX.blk (pc' := 68) [(.iinc 3 1, 0, 0)] (by decide +kernel) trivial ?_
    show Ev (d + 1) M_Mo_signals 0 0 68 [(2, v0), (0, v1), (0, v2), (0, iw (v3 + 1)), (0, v4)] [] kd m3 (zqI kd q)
    refine EvX.goto (off := (-55)) (tgt := 13) (by decide +kernel) (by decide) ?_
    exact EvX.weak (ls2 := [(2, v0), (0, v1), (0, v2), (0, iw (v3 + 1)), zJ]) (zwk_of ⟨Or.inr rfl, Or.inr rfl, Or.inr rfl, Or.inr rfl, Or.inl rfl, trivial⟩) h
  · have h := h.2 hc
    refine EvX.blk (pc' := 43) [(.aload_n 0, 0, 0), (.iload_n 1, 0, 0), (.iload_n 2, 0, 0), (.iload_n 3, 0, 0), (.iload 4, 0, 0)] (by decide +kernel) trivial ?_
    show Ev (d + 1) M_Mo_signals 0 0 43 [(2, v0), (0, v1), (0, v2), (0, v3), (0, v4)] [(0, v4), (0, v3), (0, v2), (0, v1), (2, v0)] kd m3 (zqI kd q)
    obtain ⟨ov, h⟩ := h
    obtain ⟨q4, hq, h⟩ := h
    refine EvX.callV (c := 8) (mc := 0) (ms := 0) (as := [(0, v1), (0, v2), (0, v3), (0, v4)]) (st := []) (by decide +kernel) l_Mo_361 k_Mo_givenAt v_Mo_givenAt a_Mo_givenAt (by decide) (Nat.le_of_ble_eq_true rfl) rfl ov hq (fun r kd1 m6 hr => ?_)
    obtain ⟨x5, rfl, hk, hr⟩ := hr
    subst kd1
    have h := h x5 m6 hr
    show Ev (d + 1) M_Mo_signals 0 0 46 [(2, v0), (0, v1), (0, v2), (0, v3), (0, v4)] [(0, x5)] kd m6 (zqI kd q)
    refine EvX.blk (pc' := 51) [(.aload_n 0, 0, 0), (.iload_n 1, 0, 0), (.iload_n 2, 0, 0), (.iload_n 3, 0, 0), (.iconst 0, 0, 0)] (by decide +kernel) trivial ?_
    show Ev (d + 1) M_Mo_signals 0 0 51 [(2, v0), (0, v1), (0, v2), (0, v3), (0, v4)] [(0, 0), (0, v3), (0, v2), (0, v1), (2, v0), (0, x5)] kd m6 (zqI kd q)
    obtain ⟨ov, h⟩ := h
    obtain ⟨q7, hq, h⟩ := h
    refine EvX.callV (c := 8) (mc := 0) (ms := 0) (as := [(0, v1), (0, v2), (0, v3), (0, 0)]) (st := [(0, x5)]) (by decide +kernel) l_Mo_361 k_Mo_givenAt v_Mo_givenAt a_Mo_givenAt (by decide) (Nat.le_of_ble_eq_true rfl) rfl ov hq (fun r kd1 m9 hr => ?_)
    obtain ⟨x8, rfl, hk, hr⟩ := hr
    subst kd1
    have h := h x8 m9 hr
    show Ev (d + 1) M_Mo_signals 0 0 54 [(2, v0), (0, v1), (0, v2), (0, v3), (0, v4)] [(0, x8), (0, x5)] kd m9 (zqI kd q)
    refine EvX.icmp_eq (off := 5) (tgt := 59) (by decide +kernel) (by decide) (fun hc => ?_) (fun hc => ?_)
    · have h := h.1 hc
      refine EvX.blk (pc' := 62) [(.iinc 4 1, 0, 0)] (by decide +kernel) trivial ?_
      show Ev (d + 1) M_Mo_signals 0 0 62 [(2, v0), (0, v1), (0, v2), (0, v3), (0, iw (v4 + 1))] [] kd m9 (zqI kd q)
      refine EvX.goto (off := (-37)) (tgt := 25) (by decide +kernel) (by decide) ?_
      exact h
    · have h := h.2 hc
      refine EvX.blk (pc' := 58) [(.iconst 1, 0, 0)] (by decide +kernel) trivial ?_
      show Ev (d + 1) M_Mo_signals 0 0 58 [(2, v0), (0, v1), (0, v2), (0, v3), (0, v4)] [(0, 1)] kd m9 (zqI kd q)
      exact EvX.ret (r := (0, 1)) (by decide +kernel) ⟨rfl, by decide, by decide⟩ ⟨_, rfl, rfl, h⟩
set_option maxRecDepth 20000 in
set_option maxHeartbeats 1000000 in
theorem T_Mo_boxed_0 {d : Nat} {kd : ZK} {m : ZM} {q : Int → ZM → Prop} {v0 v1 : Int} (h : (zobj kd v0 8 ∧ ∃ q1, CtI d M_Mo_hasGame [(2, v0)] kd m q1 ∧ ∀ x2 m3, q1 x2 m3 → ((x2 ≠ 0 → (((v1 < 0 ∨ 3 < v1) → q (-1) m3) ∧ (v1 = 0 → (zobj kd v0 8 ∧ ∃ q4, CtI d M_Mo_boxWorth [(2, v0)] kd m3 q4 ∧ ∀ x5 m6, q4 x5 m6 → q x5 m6)) ∧ (v1 = 1 → (zobj kd v0 8 ∧ ∃ q7, CtI d M_Mo_isWhole [(2, v0)] kd m3 q7 ∧ ∀ x8 m9, q7 x8 m9 → (∃ q10, CtI d M_Mo_truth [(0, x8)] kd m9 q10 ∧ ∀ x11 m12, q10 x11 m12 → q x11 m12))) ∧ (v1 = 2 → (zobj kd v0 8 ∧ ∃ q13, CtI d M_Mo_signals [(2, v0), (0, 0)] kd m3 q13 ∧ ∀ x14 m15, q13 x14 m15 → ((x14 ≠ 0 → (∃ q16, CtI d M_Mo_truth [(0, 1)] kd m15 q16 ∧ ∀ x17 m18, q16 x17 m18 → q x17 m18)) ∧ (¬ x14 ≠ 0 → (zobj kd v0 8 ∧ ∃ q19, CtI d M_Mo_signals [(2, v0), (0, 1)] kd m15 q19 ∧ ∀ x20 m21, q19 x20 m21 → ((x20 = 0 → (∃ q22, CtI d M_Mo_truth [(0, 0)] kd m21 q22 ∧ ∀ x23 m24, q22 x23 m24 → q x23 m24)) ∧ (¬ x20 = 0 → (∃ q25, CtI d M_Mo_truth [(0, 1)] kd m21 q25 ∧ ∀ x26 m27, q25 x26 m27 → q x26 m27)))))))) ∧ (v1 = 3 → (zobj kd v0 8 ∧ ∃ q28, CtI d M_Mo_boxWorth [(2, v0)] kd m3 q28 ∧ ∀ x29 m30, q28 x29 m30 → (zobj kd v0 8 ∧ ∃ q31, CtI d M_Mo_mostWorth [(2, v0)] kd m30 q31 ∧ ∀ x32 m33, q31 x32 m33 → ((x29 ≤ (iw (12 * x32)) → (∃ q34, CtI d M_Mo_truth [(0, 0)] kd m33 q34 ∧ ∀ x35 m36, q34 x35 m36 → q x35 m36)) ∧ (¬ x29 ≤ (iw (12 * x32)) → (∃ q37, CtI d M_Mo_truth [(0, 1)] kd m33 q37 ∧ ∀ x38 m39, q37 x38 m39 → q x38 m39)))))))) ∧ (¬ x2 ≠ 0 → q (-1) m3)))) : Ev (d + 1) M_Mo_boxed 0 0 0 [(2, v0), (0, v1)] [] kd m (zqI kd q) := by
  refine EvX.blk (pc' := 1) [(.aload_n 0, 0, 0)] (by decide +kernel) trivial ?_
  show Ev (d + 1) M_Mo_boxed 0 0 1 [(2, v0), (0, v1)] [(2, v0)] kd m (zqI kd q)
  obtain ⟨ov, h⟩ := h
  obtain ⟨q1, hq, h⟩ := h
  refine EvX.callV (c := 8) (mc := 0) (ms := 0) (as := []) (st := []) (by decide +kernel) l_Mo_215 k_Mo_hasGame v_Mo_hasGame a_Mo_hasGame (by decide) (Nat.le_of_ble_eq_true rfl) rfl ov hq (fun r kd1 m3 hr => ?_)
  obtain ⟨x2, rfl, hk, hr⟩ := hr
  subst kd1
  have h := h x2 m3 hr
  show Ev (d + 1) M_Mo_boxed 0 0 4 [(2, v0), (0, v1)] [(0, x2)] kd m3 (zqI kd q)
  refine EvX.if_ne (off := 5) (tgt := 9) (by decide +kernel) (by decide) (fun hc => ?_) (fun hc => ?_)
  · have h := h.1 hc
    refine EvX.blk (pc' := 10) [(.iload_n 1, 0, 0)] (by decide +kernel) trivial ?_
    show Ev (d + 1) M_Mo_boxed 0 0 10 [(2, v0), (0, v1)] [(0, v1)] kd m3 (zqI kd q)
    refine EvX.tsw (dflt := 91) (lo := 0) (hi := 3) (offs := #[30, 35, 43, 68]) (len := 30) (n := 4) (df := 101) (tgt := fun k => match k with | 0 => 40 | 1 => 45 | 2 => 53 | 3 => 78 | _ => 101) (by decide +kernel) (by decide) (by decide) (by decide) (fun hc => ?_) (fun hc => ?_)
    · have h := h.1 hc
      refine EvX.blk (pc' := 102) [(.iconst (-1), 0, 0)] (by decide +kernel) trivial ?_
      show Ev (d + 1) M_Mo_boxed 0 0 102 [(2, v0), (0, v1)] [(0, (-1))] kd m3 (zqI kd q)
      exact EvX.ret (r := (0, (-1))) (by decide +kernel) rfl ⟨_, rfl, rfl, h⟩
    · have h := h.2
      rcases (show v1 = 0 ∨ v1 = 1 ∨ v1 = 2 ∨ v1 = 3 by omega) with hk | hk | hk | hk
      · have h := h.1 hk
        have ek : (v1 - 0).toNat = 0 := by omega
        rw [ek]
        show Ev (d + 1) M_Mo_boxed 0 0 40 [(2, v0), (0, v1)] [] kd m3 (zqI kd q)
        refine EvX.blk (pc' := 41) [(.aload_n 0, 0, 0)] (by decide +kernel) trivial ?_
        show Ev (d + 1) M_Mo_boxed 0 0 41 [(2, v0), (0, v1)] [(2, v0)] kd m3 (zqI kd q)
        obtain ⟨ov, h⟩ := h
        obtain ⟨q4, hq, h⟩ := h
        refine EvX.callV (c := 8) (mc := 0) (ms := 0) (as := []) (st := []) (by decide +kernel) l_Mo_364 k_Mo_boxWorth v_Mo_boxWorth a_Mo_boxWorth (by decide) (Nat.le_of_ble_eq_true rfl) rfl ov hq (fun r kd1 m6 hr => ?_)
        obtain ⟨x5, rfl, hk, hr⟩ := hr
        subst kd1
        have h := h x5 m6 hr
        show Ev (d + 1) M_Mo_boxed 0 0 44 [(2, v0), (0, v1)] [(0, x5)] kd m6 (zqI kd q)
        exact EvX.ret (r := (0, x5)) (by decide +kernel) rfl ⟨_, rfl, rfl, h⟩
      · have h := h.2.1 hk
        have ek : (v1 - 0).toNat = 1 := by omega
        rw [ek]
        show Ev (d + 1) M_Mo_boxed 0 0 45 [(2, v0), (0, v1)] [] kd m3 (zqI kd q)
        refine EvX.blk (pc' := 46) [(.aload_n 0, 0, 0)] (by decide +kernel) trivial ?_
        show Ev (d + 1) M_Mo_boxed 0 0 46 [(2, v0), (0, v1)] [(2, v0)] kd m3 (zqI kd q)
        obtain ⟨ov, h⟩ := h
        obtain ⟨q7, hq, h⟩ := h
        refine EvX.callV (c := 8) (mc := 0) (ms := 0) (as := []) (st := []) (by decide +kernel) l_Mo_367 k_Mo_isWhole v_Mo_isWhole a_Mo_isWhole (by decide) (Nat.le_of_ble_eq_true rfl) rfl ov hq (fun r kd1 m9 hr => ?_)
        obtain ⟨x8, rfl, hk, hr⟩ := hr
        subst kd1
        have h := h x8 m9 hr
        show Ev (d + 1) M_Mo_boxed 0 0 49 [(2, v0), (0, v1)] [(0, x8)] kd m9 (zqI kd q)
        obtain ⟨q10, hq, h⟩ := h
        refine EvX.callS (mc := 0) (ms := 0) (as := [(0, x8)]) (st := []) (by decide +kernel) l_Mo_204 k_Mo_truth s_Mo_truth a_Mo_truth (by decide) (Nat.le_of_ble_eq_true rfl) hq (fun r kd1 m12 hr => ?_)
        obtain ⟨x11, rfl, hk, hr⟩ := hr
        subst kd1
        have h := h x11 m12 hr
        show Ev (d + 1) M_Mo_boxed 0 0 52 [(2, v0), (0, v1)] [(0, x11)] kd m12 (zqI kd q)
        exact EvX.ret (r := (0, x11)) (by decide +kernel) rfl ⟨_, rfl, rfl, h⟩
      · have h := h.2.2.1 hk
        have ek : (v1 - 0).toNat = 2 := by omega
        rw [ek]
        show Ev (d + 1) M_Mo_boxed 0 0 53 [(2, v0), (0, v1)] [] kd m3 (zqI kd q)
        refine EvX.blk (pc' := 55) [(.aload_n 0, 0, 0), (.iconst 0, 0, 0)] (by decide +kernel) trivial ?_
        show Ev (d + 1) M_Mo_boxed 0 0 55 [(2, v0), (0, v1)] [(0, 0), (2, v0)] kd m3 (zqI kd q)
        obtain ⟨ov, h⟩ := h
        obtain ⟨q13, hq, h⟩ := h
        refine EvX.callV (c := 8) (mc := 0) (ms := 0) (as := [(0, 0)]) (st := []) (by decide +kernel) l_Mo_370 k_Mo_signals v_Mo_signals a_Mo_signals (by decide) (Nat.le_of_ble_eq_true rfl) rfl ov hq (fun r kd1 m15 hr => ?_)
        obtain ⟨x14, rfl, hk, hr⟩ := hr
        subst kd1
        have h := h x14 m15 hr
        show Ev (d + 1) M_Mo_boxed 0 0 58 [(2, v0), (0, v1)] [(0, x14)] kd m15 (zqI kd q)
        refine EvX.if_ne (off := 11) (tgt := 69) (by decide +kernel) (by decide) (fun hc => ?_) (fun hc => ?_)
        · have h := h.1 hc
          refine EvX.blk (pc' := 70) [(.iconst 1, 0, 0)] (by decide +kernel) trivial ?_
          show Ev (d + 1) M_Mo_boxed 0 0 70 [(2, v0), (0, v1)] [(0, 1)] kd m15 (zqI kd q)
          refine EvX.goto (off := 4) (tgt := 74) (by decide +kernel) (by decide) ?_
          obtain ⟨q16, hq, h⟩ := h
          refine EvX.callS (mc := 0) (ms := 0) (as := [(0, 1)]) (st := []) (by decide +kernel) l_Mo_204 k_Mo_truth s_Mo_truth a_Mo_truth (by decide) (Nat.le_of_ble_eq_true rfl) hq (fun r kd1 m18 hr => ?_)
          obtain ⟨x17, rfl, hk, hr⟩ := hr
          subst kd1
          have h := h x17 m18 hr
          show Ev (d + 1) M_Mo_boxed 0 0 77 [(2, v0), (0, v1)] [(0, x17)] kd m18 (zqI kd q)
          exact EvX.ret (r := (0, x17)) (by decide +kernel) rfl ⟨_, rfl, rfl, h⟩
        · have h := h.2 hc
          refine EvX.blk (pc' := 63) [(.aload_n 0, 0, 0), (.iconst 1, 0, 0)] (by decide +kernel) trivial ?_
          show Ev (d + 1) M_Mo_boxed 0 0 63 [(2, v0), (0, v1)] [(0, 1), (2, v0)] kd m15 (zqI kd q)
          obtain ⟨ov, h⟩ := h
          obtain ⟨q19, hq, h⟩ := h
          refine EvX.callV (c := 8) (mc := 0) (ms := 0) (as := [(0, 1)]) (st := []) (by decide +kernel) l_Mo_370 k_Mo_signals v_Mo_signals a_Mo_signals (by decide) (Nat.le_of_ble_eq_true rfl) rfl ov hq (fun r kd1 m21 hr => ?_)
          obtain ⟨x20, rfl, hk, hr⟩ := hr
          subst kd1
          have h := h x20 m21 hr
          show Ev (d + 1) M_Mo_boxed 0 0 66 [(2, v0), (0, v1)] [(0, x20)] kd m21 (zqI kd q)
          refine EvX.if_eq (off := 7) (tgt := 73) (by decide +kernel) (by decide) (fun hc => ?_) (fun hc => ?_)
          · have h := h.1 hc
            refine EvX.blk (pc' := 74) [(.iconst 0, 0, 0)] (by decide +kernel) trivial ?_
            show Ev (d + 1) M_Mo_boxed 0 0 74 [(2, v0), (0, v1)] [(0, 0)] kd m21 (zqI kd q)
            obtain ⟨q22, hq, h⟩ := h
            refine EvX.callS (mc := 0) (ms := 0) (as := [(0, 0)]) (st := []) (by decide +kernel) l_Mo_204 k_Mo_truth s_Mo_truth a_Mo_truth (by decide) (Nat.le_of_ble_eq_true rfl) hq (fun r kd1 m24 hr => ?_)
            obtain ⟨x23, rfl, hk, hr⟩ := hr
            subst kd1
            have h := h x23 m24 hr
            show Ev (d + 1) M_Mo_boxed 0 0 77 [(2, v0), (0, v1)] [(0, x23)] kd m24 (zqI kd q)
            exact EvX.ret (r := (0, x23)) (by decide +kernel) rfl ⟨_, rfl, rfl, h⟩
          · have h := h.2 hc
            refine EvX.blk (pc' := 70) [(.iconst 1, 0, 0)] (by decide +kernel) trivial ?_
            show Ev (d + 1) M_Mo_boxed 0 0 70 [(2, v0), (0, v1)] [(0, 1)] kd m21 (zqI kd q)
            refine EvX.goto (off := 4) (tgt := 74) (by decide +kernel) (by decide) ?_
            obtain ⟨q25, hq, h⟩ := h
            refine EvX.callS (mc := 0) (ms := 0) (as := [(0, 1)]) (st := []) (by decide +kernel) l_Mo_204 k_Mo_truth s_Mo_truth a_Mo_truth (by decide) (Nat.le_of_ble_eq_true rfl) hq (fun r kd1 m27 hr => ?_)
            obtain ⟨x26, rfl, hk, hr⟩ := hr
            subst kd1
            have h := h x26 m27 hr
            show Ev (d + 1) M_Mo_boxed 0 0 77 [(2, v0), (0, v1)] [(0, x26)] kd m27 (zqI kd q)
            exact EvX.ret (r := (0, x26)) (by decide +kernel) rfl ⟨_, rfl, rfl, h⟩
      · have h := h.2.2.2 hk
        have ek : (v1 - 0).toNat = 3 := by omega
        rw [ek]
        show Ev (d + 1) M_Mo_boxed 0 0 78 [(2, v0), (0, v1)] [] kd m3 (zqI kd q)
        refine EvX.blk (pc' := 79) [(.aload_n 0, 0, 0)] (by decide +kernel) trivial ?_
        show Ev (d + 1) M_Mo_boxed 0 0 79 [(2, v0), (0, v1)] [(2, v0)] kd m3 (zqI kd q)
        obtain ⟨ov, h⟩ := h
        obtain ⟨q28, hq, h⟩ := h
        refine EvX.callV (c := 8) (mc := 0) (ms := 0) (as := []) (st := []) (by decide +kernel) l_Mo_364 k_Mo_boxWorth v_Mo_boxWorth a_Mo_boxWorth (by decide) (Nat.le_of_ble_eq_true rfl) rfl ov hq (fun r kd1 m30 hr => ?_)
        obtain ⟨x29, rfl, hk, hr⟩ := hr
        subst kd1
        have h := h x29 m30 hr
        show Ev (d + 1) M_Mo_boxed 0 0 82 [(2, v0), (0, v1)] [(0, x29)] kd m30 (zqI kd q)
        refine EvX.blk (pc' := 85) [(.bipush 12, 0, 0), (.aload_n 0, 0, 0)] (by decide +kernel) trivial ?_
        show Ev (d + 1) M_Mo_boxed 0 0 85 [(2, v0), (0, v1)] [(2, v0), (0, 12), (0, x29)] kd m30 (zqI kd q)
        obtain ⟨ov, h⟩ := h
        obtain ⟨q31, hq, h⟩ := h
        refine EvX.callV (c := 8) (mc := 0) (ms := 0) (as := []) (st := [(0, 12), (0, x29)]) (by decide +kernel) l_Mo_281 k_Mo_mostWorth v_Mo_mostWorth a_Mo_mostWorth (by decide) (Nat.le_of_ble_eq_true rfl) rfl ov hq (fun r kd1 m33 hr => ?_)
        obtain ⟨x32, rfl, hk, hr⟩ := hr
        subst kd1
        have h := h x32 m33 hr
        show Ev (d + 1) M_Mo_boxed 0 0 88 [(2, v0), (0, v1)] [(0, x32), (0, 12), (0, x29)] kd m33 (zqI kd q)
        refine EvX.blk (pc' := 89) [(.imul, 0, 0)] (by decide +kernel) trivial ?_
        show Ev (d + 1) M_Mo_boxed 0 0 89 [(2, v0), (0, v1)] [(0, iw (12 * x32)), (0, x29)] kd m33 (zqI kd q)
        refine EvX.icmp_le (off := 7) (tgt := 96) (by decide +kernel) (by decide) (fun hc => ?_) (fun hc => ?_)
        · have h := h.1 hc
          refine EvX.blk (pc' := 97) [(.iconst 0, 0, 0)] (by decide +kernel) trivial ?_
          show Ev (d + 1) M_Mo_boxed 0 0 97 [(2, v0), (0, v1)] [(0, 0)] kd m33 (zqI kd q)
          obtain ⟨q34, hq, h⟩ := h
          refine EvX.callS (mc := 0) (ms := 0) (as := [(0, 0)]) (st := []) (by decide +kernel) l_Mo_204 k_Mo_truth s_Mo_truth a_Mo_truth (by decide) (Nat.le_of_ble_eq_true rfl) hq (fun r kd1 m36 hr => ?_)
          obtain ⟨x35, rfl, hk, hr⟩ := hr
          subst kd1
          have h := h x35 m36 hr
          show Ev (d + 1) M_Mo_boxed 0 0 100 [(2, v0), (0, v1)] [(0, x35)] kd m36 (zqI kd q)
          exact EvX.ret (r := (0, x35)) (by decide +kernel) rfl ⟨_, rfl, rfl, h⟩
        · have h := h.2 hc
          refine EvX.blk (pc' := 93) [(.iconst 1, 0, 0)] (by decide +kernel) trivial ?_
          show Ev (d + 1) M_Mo_boxed 0 0 93 [(2, v0), (0, v1)] [(0, 1)] kd m33 (zqI kd q)
          refine EvX.goto (off := 4) (tgt := 97) (by decide +kernel) (by decide) ?_
          obtain ⟨q37, hq, h⟩ := h
          refine EvX.callS (mc := 0) (ms := 0) (as := [(0, 1)]) (st := []) (by decide +kernel) l_Mo_204 k_Mo_truth s_Mo_truth a_Mo_truth (by decide) (Nat.le_of_ble_eq_true rfl) hq (fun r kd1 m39 hr => ?_)
          obtain ⟨x38, rfl, hk, hr⟩ := hr
          subst kd1
          have h := h x38 m39 hr
          show Ev (d + 1) M_Mo_boxed 0 0 100 [(2, v0), (0, v1)] [(0, x38)] kd m39 (zqI kd q)
          exact EvX.ret (r := (0, x38)) (by decide +kernel) rfl ⟨_, rfl, rfl, h⟩
  · have h := h.2 hc
    refine EvX.blk (pc' := 8) [(.iconst (-1), 0, 0)] (by decide +kernel) trivial ?_
    show Ev (d + 1) M_Mo_boxed 0 0 8 [(2, v0), (0, v1)] [(0, (-1))] kd m3 (zqI kd q)
    exact EvX.ret (r := (0, (-1))) (by decide +kernel) rfl ⟨_, rfl, rfl, h⟩
theorem S_Mo_boxed {d : Nat} {kd : ZK} {m : ZM} {q : Int → ZM → Prop} {v0 v1 : Int} (h : (zobj kd v0 8 ∧ ∃ q1, CtI d M_Mo_hasGame [(2, v0)] kd m q1 ∧ ∀ x2 m3, q1 x2 m3 → ((x2 ≠ 0 → (((v1 < 0 ∨ 3 < v1) → q (-1) m3) ∧ (v1 = 0 → (zobj kd v0 8 ∧ ∃ q4, CtI d M_Mo_boxWorth [(2, v0)] kd m3 q4 ∧ ∀ x5 m6, q4 x5 m6 → q x5 m6)) ∧ (v1 = 1 → (zobj kd v0 8 ∧ ∃ q7, CtI d M_Mo_isWhole [(2, v0)] kd m3 q7 ∧ ∀ x8 m9, q7 x8 m9 → (∃ q10, CtI d M_Mo_truth [(0, x8)] kd m9 q10 ∧ ∀ x11 m12, q10 x11 m12 → q x11 m12))) ∧ (v1 = 2 → (zobj kd v0 8 ∧ ∃ q13, CtI d M_Mo_signals [(2, v0), (0, 0)] kd m3 q13 ∧ ∀ x14 m15, q13 x14 m15 → ((x14 ≠ 0 → (∃ q16, CtI d M_Mo_truth [(0, 1)] kd m15 q16 ∧ ∀ x17 m18, q16 x17 m18 → q x17 m18)) ∧ (¬ x14 ≠ 0 → (zobj kd v0 8 ∧ ∃ q19, CtI d M_Mo_signals [(2, v0), (0, 1)] kd m15 q19 ∧ ∀ x20 m21, q19 x20 m21 → ((x20 = 0 → (∃ q22, CtI d M_Mo_truth [(0, 0)] kd m21 q22 ∧ ∀ x23 m24, q22 x23 m24 → q x23 m24)) ∧ (¬ x20 = 0 → (∃ q25, CtI d M_Mo_truth [(0, 1)] kd m21 q25 ∧ ∀ x26 m27, q25 x26 m27 → q x26 m27)))))))) ∧ (v1 = 3 → (zobj kd v0 8 ∧ ∃ q28, CtI d M_Mo_boxWorth [(2, v0)] kd m3 q28 ∧ ∀ x29 m30, q28 x29 m30 → (zobj kd v0 8 ∧ ∃ q31, CtI d M_Mo_mostWorth [(2, v0)] kd m30 q31 ∧ ∀ x32 m33, q31 x32 m33 → ((x29 ≤ (iw (12 * x32)) → (∃ q34, CtI d M_Mo_truth [(0, 0)] kd m33 q34 ∧ ∀ x35 m36, q34 x35 m36 → q x35 m36)) ∧ (¬ x29 ≤ (iw (12 * x32)) → (∃ q37, CtI d M_Mo_truth [(0, 1)] kd m33 q37 ∧ ∀ x38 m39, q37 x38 m39 → q x38 m39)))))))) ∧ (¬ x2 ≠ 0 → q (-1) m3)))) : CtI (d + 1) M_Mo_boxed [(2, v0), (0, v1)] kd m q :=
  Ct.start k_Mo_boxed (Nat.le_of_ble_eq_true rfl) ⟨1, Or.inr (Or.inl ⟨rfl, rfl⟩)⟩ (T_Mo_boxed_0 h)
set_option maxRecDepth 20000 in
set_option maxHeartbeats 1000000 in
theorem T_Mo_marginal_0 {d : Nat} {kd : ZK} {m : ZM} {q : Int → ZM → Prop} {v0 v1 v2 v3 v4 : Int} (h : (∃ q1, CtI d M_Mo_isPlayer [(0, v1)] kd m q1 ∧ ∀ x2 m3, q1 x2 m3 → ((x2 = 0 → q (-1) m3) ∧ (¬ x2 = 0 → (zobj kd v0 8 ∧ ∃ q4, CtI d M_Mo_isQuestion [(2, v0), (0, v1), (0, v2)] kd m3 q4 ∧ ∀ x5 m6, q4 x5 m6 → ((x5 = 0 → q (-1) m6) ∧ (¬ x5 = 0 → (zobj kd v0 8 ∧ ∃ q7, CtI d M_Mo_isAnswer [(2, v0), (0, v1), (0, v3)] kd m6 q7 ∧ ∀ x8 m9, q7 x8 m9 → ((x8 = 0 → q (-1) m9) ∧ (¬ x8 = 0 → (zobj kd v0 8 ∧ ∃ q10, CtI d M_Mo_isQuestion [(2, v0), (0, iw (1 - v1)), (0, v4)] kd m9 q10 ∧ ∀ x11 m12, q10 x11 m12 → ((x11 ≠ 0 → (zobj kd v0 8 ∧ ∃ q13, CtI d M_Mo_givenAt [(2, v0), (0, v1), (0, v2), (0, v3), (0, v4)] kd m12 q13 ∧ ∀ x14 m15, q13 x14 m15 → q x14 m15)) ∧ (¬ x11 ≠ 0 → q (-1) m12))))))))))))) : Ev (d + 1) M_Mo_marginal 0 0 0 [(2, v0), (0, v1), (0, v2), (0, v3), (0, v4)] [] kd m (zqI kd q) := by
  refine EvX.blk (pc' := 1) [(.iload_n 1, 0, 0)] (by decide +kernel) trivial ?_
  show Ev (d + 1) M_Mo_marginal 0 0 1 [(2, v0), (0, v1), (0, v2), (0, v3), (0, v4)] [(0, v1)] kd m (zqI kd q)
  obtain ⟨q1, hq, h⟩ := h
  refine EvX.callS (mc := 0) (ms := 0) (as := [(0, v1)]) (st := []) (by decide +kernel) l_Mo_208 k_Mo_isPlayer s_Mo_isPlayer a_Mo_isPlayer (by decide) (Nat.le_of_ble_eq_true rfl) hq (fun r kd1 m3 hr => ?_)
  obtain ⟨x2, rfl, hk, hr⟩ := hr
  subst kd1
  have h := h x2 m3 hr
  show Ev (d + 1) M_Mo_marginal 0 0 4 [(2, v0), (0, v1), (0, v2), (0, v3), (0, v4)] [(0, x2)] kd m3 (zqI kd q)
  refine EvX.if_eq (off := 33) (tgt := 37) (by decide +kernel) (by decide) (fun hc => ?_) (fun hc => ?_)
  · have h := h.1 hc
    refine EvX.blk (pc' := 38) [(.iconst (-1), 0, 0)] (by decide +kernel) trivial ?_
    show Ev (d + 1) M_Mo_marginal 0 0 38 [(2, v0), (0, v1), (0, v2), (0, v3), (0, v4)] [(0, (-1))] kd m3 (zqI kd q)
    exact EvX.ret (r := (0, (-1))) (by decide +kernel) rfl ⟨_, rfl, rfl, h⟩
  · have h := h.2 hc
    refine EvX.blk (pc' := 10) [(.aload_n 0, 0, 0), (.iload_n 1, 0, 0), (.iload_n 2, 0, 0)] (by decide +kernel) trivial ?_
    show Ev (d + 1) M_Mo_marginal 0 0 10 [(2, v0), (0, v1), (0, v2), (0, v3), (0, v4)] [(0, v2), (0, v1), (2, v0)] kd m3 (zqI kd q)
    obtain ⟨ov, h⟩ := h
    obtain ⟨q4, hq, h⟩ := h
    refine EvX.callV (c := 8) (mc := 0) (ms := 0) (as := [(0, v1), (0, v2)]) (st := []) (by decide +kernel) l_Mo_170 k_Mo_isQuestion v_Mo_isQuestion a_Mo_isQuestion (by decide) (Nat.le_of_ble_eq_true rfl) rfl ov hq (fun r kd1 m6 hr => ?_)
    obtain ⟨x5, rfl, hk, hr⟩ := hr
    subst kd1
    have h := h x5 m6 hr
    show Ev (d + 1) M_Mo_marginal 0 0 13 [(2, v0), (0, v1), (0, v2), (0, v3), (0, v4)] [(0, x5)] kd m6 (zqI kd q)
    refine EvX.if_eq (off := 24) (tgt := 37) (by decide +kernel) (by decide) (fun hc => ?_) (fun hc => ?_)
    · have h := h.1 hc
      refine EvX.blk (pc' := 38) [(.iconst (-1), 0, 0)] (by decide +kernel) trivial ?_
      show Ev (d + 1) M_Mo_marginal 0 0 38 [(2, v0), (0, v1), (0, v2), (0, v3), (0, v4)] [(0, (-1))] kd m6 (zqI kd q)
      exact EvX.ret (r := (0, (-1))) (by decide +kernel) rfl ⟨_, rfl, rfl, h⟩
    · have h := h.2 hc
      refine EvX.blk (pc' := 19) [(.aload_n 0, 0, 0), (.iload_n 1, 0, 0), (.iload_n 3, 0, 0)] (by decide +kernel) trivial ?_
      show Ev (d + 1) M_Mo_marginal 0 0 19 [(2, v0), (0, v1), (0, v2), (0, v3), (0, v4)] [(0, v3), (0, v1), (2, v0)] kd m6 (zqI kd q)
      obtain ⟨ov, h⟩ := h
      obtain ⟨q7, hq, h⟩ := h
      refine EvX.callV (c := 8) (mc := 0) (ms := 0) (as := [(0, v1), (0, v3)]) (st := []) (by decide +kernel) l_Mo_177 k_Mo_isAnswer v_Mo_isAnswer a_Mo_isAnswer (by decide) (Nat.le_of_ble_eq_true rfl) rfl ov hq (fun r kd1 m9 hr => ?_)
      obtain ⟨x8, rfl, hk, hr⟩ := hr
      subst kd1
      have h := h x8 m9 hr
      show Ev (d + 1) M_Mo_marginal 0 0 22 [(2, v0), (0, v1), (0, v2), (0, v3), (0, v4)] [(0, x8)] kd m9 (zqI kd q)
      refine EvX.if_eq (off := 15) (tgt := 37) (by decide +kernel) (by decide) (fun hc => ?_) (fun hc => ?_)
      · have h := h.1 hc
        refine EvX.blk (pc' := 38) [(.iconst (-1), 0, 0)] (by decide +kernel) trivial ?_
        show Ev (d + 1) M_Mo_marginal 0 0 38 [(2, v0), (0, v1), (0, v2), (0, v3), (0, v4)] [(0, (-1))] kd m9 (zqI kd q)
        exact EvX.ret (r := (0, (-1))) (by decide +kernel) rfl ⟨_, rfl, rfl, h⟩
      · have h := h.2 hc
        refine EvX.blk (pc' := 31) [(.aload_n 0, 0, 0), (.iconst 1, 0, 0), (.iload_n 1, 0, 0), (.isub, 0, 0), (.iload 4, 0, 0)] (by decide +kernel) trivial ?_
        show Ev (d + 1) M_Mo_marginal 0 0 31 [(2, v0), (0, v1), (0, v2), (0, v3), (0, v4)] [(0, v4), (0, iw (1 - v1)), (2, v0)] kd m9 (zqI kd q)
        obtain ⟨ov, h⟩ := h
        obtain ⟨q10, hq, h⟩ := h
        refine EvX.callV (c := 8) (mc := 0) (ms := 0) (as := [(0, iw (1 - v1)), (0, v4)]) (st := []) (by decide +kernel) l_Mo_170 k_Mo_isQuestion v_Mo_isQuestion a_Mo_isQuestion (by decide) (Nat.le_of_ble_eq_true rfl) rfl ov hq (fun r kd1 m12 hr => ?_)
        obtain ⟨x11, rfl, hk, hr⟩ := hr
        subst kd1
        have h := h x11 m12 hr
        show Ev (d + 1) M_Mo_marginal 0 0 34 [(2, v0), (0, v1), (0, v2), (0, v3), (0, v4)] [(0, x11)] kd m12 (zqI kd q)
        refine EvX.if_ne (off := 5) (tgt := 39) (by decide +kernel) (by decide) (fun hc => ?_) (fun hc => ?_)
        · have h := h.1 hc
          refine EvX.blk (pc' := 45) [(.aload_n 0, 0, 0), (.iload_n 1, 0, 0), (.iload_n 2, 0, 0), (.iload_n 3, 0, 0), (.iload 4, 0, 0)] (by decide +kernel) trivial ?_
          show Ev (d + 1) M_Mo_marginal 0 0 45 [(2, v0), (0, v1), (0, v2), (0, v3), (0, v4)] [(0, v4), (0, v3), (0, v2), (0, v1), (2, v0)] kd m12 (zqI kd q)
          obtain ⟨ov, h⟩ := h
          obtain ⟨q13, hq, h⟩ := h
          refine EvX.callV (c := 8) (mc := 0) (ms := 0) (as := [(0, v1), (0, v2), (0, v3), (0, v4)]) (st := []) (by decide +kernel) l_Mo_361 k_Mo_givenAt v_Mo_givenAt a_Mo_givenAt (by decide) (Nat.le_of_ble_eq_true rfl) rfl ov hq (fun r kd1 m15 hr => ?_)
          obtain ⟨x14, rfl, hk, hr⟩ := hr
          subst kd1
          have h := h x14 m15 hr
          show Ev (d + 1) M_Mo_marginal 0 0 48 [(2, v0), (0, v1), (0, v2), (0, v3), (0, v4)] [(0, x14)] kd m15 (zqI kd q)
          exact EvX.ret (r := (0, x14)) (by decide +kernel) rfl ⟨_, rfl, rfl, h⟩
        · have h := h.2 hc
          refine EvX.blk (pc' := 38) [(.iconst (-1), 0, 0)] (by decide +kernel) trivial ?_
          show Ev (d + 1) M_Mo_marginal 0 0 38 [(2, v0), (0, v1), (0, v2), (0, v3), (0, v4)] [(0, (-1))] kd m12 (zqI kd q)
          exact EvX.ret (r := (0, (-1))) (by decide +kernel) rfl ⟨_, rfl, rfl, h⟩
theorem S_Mo_marginal {d : Nat} {kd : ZK} {m : ZM} {q : Int → ZM → Prop} {v0 v1 v2 v3 v4 : Int} (h : (∃ q1, CtI d M_Mo_isPlayer [(0, v1)] kd m q1 ∧ ∀ x2 m3, q1 x2 m3 → ((x2 = 0 → q (-1) m3) ∧ (¬ x2 = 0 → (zobj kd v0 8 ∧ ∃ q4, CtI d M_Mo_isQuestion [(2, v0), (0, v1), (0, v2)] kd m3 q4 ∧ ∀ x5 m6, q4 x5 m6 → ((x5 = 0 → q (-1) m6) ∧ (¬ x5 = 0 → (zobj kd v0 8 ∧ ∃ q7, CtI d M_Mo_isAnswer [(2, v0), (0, v1), (0, v3)] kd m6 q7 ∧ ∀ x8 m9, q7 x8 m9 → ((x8 = 0 → q (-1) m9) ∧ (¬ x8 = 0 → (zobj kd v0 8 ∧ ∃ q10, CtI d M_Mo_isQuestion [(2, v0), (0, iw (1 - v1)), (0, v4)] kd m9 q10 ∧ ∀ x11 m12, q10 x11 m12 → ((x11 ≠ 0 → (zobj kd v0 8 ∧ ∃ q13, CtI d M_Mo_givenAt [(2, v0), (0, v1), (0, v2), (0, v3), (0, v4)] kd m12 q13 ∧ ∀ x14 m15, q13 x14 m15 → q x14 m15)) ∧ (¬ x11 ≠ 0 → q (-1) m12))))))))))))) : CtI (d + 1) M_Mo_marginal [(2, v0), (0, v1), (0, v2), (0, v3), (0, v4)] kd m q :=
  Ct.start k_Mo_marginal (Nat.le_of_ble_eq_true rfl) ⟨1, Or.inr (Or.inl ⟨rfl, rfl⟩)⟩ (T_Mo_marginal_0 h)
set_option maxRecDepth 20000 in
set_option maxHeartbeats 1000000 in
theorem T_Mo_isAlike_0 {d : Nat} {kd : ZK} {m : ZM} {q : Int → ZM → Prop} {v0 v1 v2 v3 v4 : Int} (h : (zobj kd v0 8 ∧ ∃ q1, CtI d M_Mo_weightOf [(2, v0), (0, v1), (0, v2)] kd m q1 ∧ ∀ x2 m3, q1 x2 m3 → (zobj kd v0 8 ∧ ∃ q4, CtI d M_Mo_weightOf [(2, v0), (0, v3), (0, v4)] kd m3 q4 ∧ ∀ x5 m6, q4 x5 m6 → ((x2 ≠ x5 → (Ev (d + 1) M_Mo_isAlike 0 0 26 [(2, v0), (0, v1), (0, v2), (0, v3), (0, v4), (0, 0), (0, 0), zJ] [] kd m6 (zqI kd q))) ∧ (¬ x2 ≠ x5 → (Ev (d + 1) M_Mo_isAlike 0 0 26 [(2, v0), (0, v1), (0, v2), (0, v3), (0, v4), (0, 1), (0, 0), zJ] [] kd m6 (zqI kd q))))))) : Ev (d + 1) M_Mo_isAlike 0 0 0 [(2, v0), (0, v1), (0, v2), (0, v3), (0, v4), zJ, zJ, zJ] [] kd m (zqI kd q) := by
  refine EvX.blk (pc' := 3) [(.aload_n 0, 0, 0), (.iload_n 1, 0, 0), (.iload_n 2, 0, 0)] (by decide +kernel) trivial ?_
  show Ev (d + 1) M_Mo_isAlike 0 0 3 [(2, v0), (0, v1), (0, v2), (0, v3), (0, v4), zJ, zJ, zJ] [(0, v2), (0, v1), (2, v0)] kd m (zqI kd q)
  obtain ⟨ov, h⟩ := h
  obtain ⟨q1, hq, h⟩ := h
  refine EvX.callV (c := 8) (mc := 0) (ms := 0) (as := [(0, v1), (0, v2)]) (st := []) (by decide +kernel) l_Mo_180 k_Mo_weightOf v_Mo_weightOf a_Mo_weightOf (by decide) (Nat.le_of_ble_eq_true rfl) rfl ov hq (fun r kd1 m3 hr => ?_)
  obtain ⟨x2, rfl, hk, hr⟩ := hr
  subst kd1
  have h := h x2 m3 hr
  show Ev (d + 1) M_Mo_isAlike 0 0 6 [(2, v0), (0, v1), (0, v2), (0, v3), (0, v4), zJ, zJ, zJ] [(0, x2)] kd m3 (zqI kd q)
  refine EvX.blk (pc' := 10) [(.aload_n 0, 0, 0), (.iload_n 3, 0, 0), (.iload 4, 0, 0)] (by decide +kernel) trivial ?_
  show Ev (d + 1) M_Mo_isAlike 0 0 10 [(2, v0), (0, v1), (0, v2), (0, v3), (0, v4), zJ, zJ, zJ] [(0, v4), (0, v3), (2, v0), (0, x2)] kd m3 (zqI kd q)
  obtain ⟨ov, h⟩ := h
  obtain ⟨q4, hq, h⟩ := h
  refine EvX.callV (c := 8) (mc := 0) (ms := 0) (as := [(0, v3), (0, v4)]) (st := [(0, x2)]) (by decide +kernel) l_Mo_180 k_Mo_weightOf v_Mo_weightOf a_Mo_weightOf (by decide) (Nat.le_of_ble_eq_true rfl) rfl ov hq (fun r kd1 m6 hr => ?_)
  obtain ⟨x5, rfl, hk, hr⟩ := hr
  subst kd1
  have h := h x5 m6 hr
  show Ev (d + 1) M_Mo_isAlike 0 0 13 [(2, v0), (0, v1), (0, v2), (0, v3), (0, v4), zJ, zJ, zJ] [(0, x5), (0, x2)] kd m6 (zqI kd q)
  refine EvX.icmp_ne (off := 7) (tgt := 20) (by decide +kernel) (by decide) (fun hc => ?_) (fun hc => ?_)
  · have h := h.1 hc
    refine EvX.blk (pc' := 26) [(.iconst 0, 0, 0), (.istore 5, 0, 0), (.iconst 0, 0, 0), (.istore 6, 0, 0)] (by decide +kernel) trivial ?_
    show Ev (d + 1) M_Mo_isAlike 0 0 26 [(2, v0), (0, v1), (0, v2), (0, v3), (0, v4), (0, 0), (0, 0), zJ] [] kd m6 (zqI kd q)
    exact h
  · have h := h.2 hc
    refine EvX.blk (pc' := 17) [(.iconst 1, 0, 0)] (by decide +kernel) trivial ?_
    show Ev (d + 1) M_Mo_isAlike 0 0 17 [(2, v0), (0, v1), (0, v2), (0, v3), (0, v4), zJ, zJ, zJ] [(0, 1)] kd m6 (zqI kd q)
    refine EvX.goto (off := 4) (tgt := 21) (by decide +kernel) (by decide) ?_
    refine EvX.blk (pc' := 26) [(.istore 5, 0, 0), (.iconst 0, 0, 0), (.istore 6, 0, 0)] (by decide +kernel) trivial ?_
    show Ev (d + 1) M_Mo_isAlike 0 0 26 [(2, v0), (0, v1), (0, v2), (0, v3), (0, v4), (0, 1), (0, 0), zJ] [] kd m6 (zqI kd q)
    exact h
theorem S_Mo_isAlike {d : Nat} {kd : ZK} {m : ZM} {q : Int → ZM → Prop} {v0 v1 v2 v3 v4 : Int} (h : (zobj kd v0 8 ∧ ∃ q1, CtI d M_Mo_weightOf [(2, v0), (0, v1), (0, v2)] kd m q1 ∧ ∀ x2 m3, q1 x2 m3 → (zobj kd v0 8 ∧ ∃ q4, CtI d M_Mo_weightOf [(2, v0), (0, v3), (0, v4)] kd m3 q4 ∧ ∀ x5 m6, q4 x5 m6 → ((x2 ≠ x5 → (Ev (d + 1) M_Mo_isAlike 0 0 26 [(2, v0), (0, v1), (0, v2), (0, v3), (0, v4), (0, 0), (0, 0), zJ] [] kd m6 (zqI kd q))) ∧ (¬ x2 ≠ x5 → (Ev (d + 1) M_Mo_isAlike 0 0 26 [(2, v0), (0, v1), (0, v2), (0, v3), (0, v4), (0, 1), (0, 0), zJ] [] kd m6 (zqI kd q))))))) : CtI (d + 1) M_Mo_isAlike [(2, v0), (0, v1), (0, v2), (0, v3), (0, v4)] kd m q :=
  Ct.start k_Mo_isAlike (Nat.le_of_ble_eq_true rfl) ⟨2, Or.inr (Or.inr (Or.inl ⟨rfl, rfl⟩))⟩ (T_Mo_isAlike_0 h)
set_option maxRecDepth 20000 in
set_option maxHeartbeats 1000000 in
theorem T_Mo_isAlike_26 {d : Nat} {kd : ZK} {m : ZM} {q : Int → ZM → Prop} {v0 v1 v2 v3 v4 v5 v6 : Int} (h : (zobj kd v0 8 ∧ ∃ q1, CtI d M_Mo_answers [(2, v0), (0, 0)] kd m q1 ∧ ∀ x2 m3, q1 x2 m3 → ((x2 ≤ v6 → ((0 ≤ v5 ∧ v5 ≤ 1) ∧ q v5 m3)) ∧ (¬ x2 ≤ v6 → (Ev (d + 1) M_Mo_isAlike 0 0 39 [(2, v0), (0, v1), (0, v2), (0, v3), (0, v4), (0, v5), (0, v6), (0, 0)] [] kd m3 (zqI kd q)))))) : Ev (d + 1) M_Mo_isAlike 0 0 26 [(2, v0), (0, v1), (0, v2), (0, v3), (0, v4), (0, v5), (0, v6), zJ] [] kd m (zqI kd q) := by
  refine EvX.blk (pc' := 30) [(.iload 6, 0, 0), (.aload_n 0, 0, 0), (.iconst 0, 0, 0)] (by decide +kernel) trivial ?_
  show Ev (d + 1) M_Mo_isAlike 0 0 30 [(2, v0), (0, v1), (0, v2), (0, v3), (0, v4), (0, v5), (0, v6), zJ] [(0, 0), (2, v0), (0, v6)] kd m (zqI kd q)
  obtain ⟨ov, h⟩ := h
  obtain ⟨q1, hq, h⟩ := h
  refine EvX.callV (c := 8) (mc := 0) (ms := 0) (as := [(0, 0)]) (st := [(0, v6)]) (by decide +kernel) l_Mo_167 k_Mo_answers v_Mo_answers a_Mo_answers (by decide) (Nat.le_of_ble_eq_true rfl) rfl ov hq (fun r kd1 m3 hr => ?_)
  obtain ⟨x2, rfl, hk, hr⟩ := hr
  subst kd1
  have h := h x2 m3 hr
  show Ev (d + 1) M_Mo_isAlike 0 0 33 [(2, v0), (0, v1), (0, v2), (0, v3), (0, v4), (0, v5), (0, v6), zJ] [(0, x2), (0, v6)] kd m3 (zqI kd q)
  refine EvX.icmp_ge (off := 64) (tgt := 97) (by decide +kernel) (by decide) (fun hc => ?_) (fun hc => ?_)
  · have h := h.1 hc
    refine EvX.blk (pc' := 99) [(.iload 5, 0, 0)] (by decide +kernel) trivial ?_
    show Ev (d + 1) M_Mo_isAlike 0 0 99 [(2, v0), (0, v1), (0, v2), (0, v3), (0, v4), (0, v5), (0, v6), zJ] [(0, v5)] kd m3 (zqI kd q)
    exact EvX.ret (r := (0, v5)) (by decide +kernel) ⟨rfl, h.1.1, h.1.2⟩ ⟨_, rfl, rfl, h.2⟩
  · have h := h.2 hc
    refine EvX.blk (pc' := 39) [(.iconst 0, 0, 0), (.istore 7, 0, 0)] (by decide +kernel) trivial ?_
    show Ev (d + 1) M_Mo_isAlike 0 0 39 [(2, v0), (0, v1), (0, v2), (0, v3), (0, v4), (0, v5), (0, v6), (0, 0)] [] kd m3 (zqI kd q)
    exact h
set_option maxRecDepth 20000 in
set_option maxHeartbeats 1000000 in
theorem T_Mo_isAlike_39 {d : Nat} {kd : ZK} {m : ZM} {q : Int → ZM → Prop} {v0 v1 v2 v3 v4 v5 v6 v7 : Int} (h : (zobj kd v0 8 ∧ ∃ q1, CtI d M_Mo_answers [(2, v0), (0, 1)] kd m q1 ∧ ∀ x2 m3, q1 x2 m3 → ((x2 ≤ v7 → (Ev (d + 1) M_Mo_isAlike 0 0 26 [(2, v0), (0, v1), (0, v2), (0, v3), (0, v4), (0, v5), (0, iw (v6 + 1)), zJ] [] kd m3 (zqI kd q))) ∧ (¬ x2 ≤ v7 → ((v5 = 0 → (Ev (d + 1) M_Mo_isAlike 0 0 39 [(2, v0), (0, v1), (0, v2), (0, v3), (0, v4), (0, 0), (0, v6), (0, iw (v7 + 1))] [] kd m3 (zqI kd q))) ∧ (¬ v5 = 0 → (zobj kd v0 8 ∧ ∃ q4, CtI d M_Mo_isWin [(2, v0), (0, v1), (0, v2), (0, v6), (0, v7)] kd m3 q4 ∧ ∀ x5 m6, q4 x5 m6 → (zobj kd v0 8 ∧ ∃ q7, CtI d M_Mo_isWin [(2, v0), (0, v3), (0, v4), (0, v6), (0, v7)] kd m6 q7 ∧ ∀ x8 m9, q7 x8 m9 → ((x5 ≠ x8 → (Ev (d + 1) M_Mo_isAlike 0 0 39 [(2, v0), (0, v1), (0, v2), (0, v3), (0, v4), (0, 0), (0, v6), (0, iw (v7 + 1))] [] kd m9 (zqI kd q))) ∧ (¬ x5 ≠ x8 → (Ev (d + 1) M_Mo_isAlike 0 0 39 [(2, v0), (0, v1), (0, v2), (0, v3), (0, v4), (0, 1), (0, v6), (0, iw (v7 + 1))] [] kd m9 (zqI kd q)))))))))))) : Ev (d + 1) M_Mo_isAlike 0 0 39 [(2, v0), (0, v1), (0, v2), (0, v3), (0, v4), (0, v5), (0, v6), (0, v7)] [] kd m (zqI kd q) := by
  refine EvX.blk (pc' := 43) [(.iload 7, 0, 0), (.aload_n 0, 0, 0), (.iconst 1, 0, 0)] (by decide +kernel) trivial ?_
  show Ev (d + 1) M_Mo_isAlike 0 0 43 [(2, v0), (0, v1), (0, v2), (0, v3), (0, v4), (0, v5), (0, v6), (0, v7)] [(0, 1), (2, v0), (0, v7)] kd m (zqI kd q)
  obtain ⟨ov, h⟩ := h
  obtain ⟨q1, hq, h⟩ := h
  refine EvX.callV (c := 8) (mc := 0) (ms := 0) (as := [(0, 1)]) (st := [(0, v7)]) (by decide +kernel) l_Mo_167 k_Mo_answers v_Mo_answers a_Mo_answers (by decide) (Nat.le_of_ble_eq_true rfl) rfl ov hq (fun r kd1 m3 hr => ?_)
  obtain ⟨x2, rfl, hk, hr⟩ := hr
  subst kd1
  have h := h x2 m3 hr
  show Ev (d + 1) M_Mo_isAlike 0 0 46 [(2, v0), (0, v1), (0, v2), (0, v3), (0, v4), (0, v5), (0, v6), (0, v7)] [(0, x2), (0, v7)] kd m3 (zqI kd q)
  refine EvX.icmp_ge (off := 45) (tgt := 91) (by decide +kernel) (by decide) (fun hc => ?_) (fun hc => ?_)
  · have h := h.1 hc
    refine EvX.blk (pc' := 94) [(.iinc 6 1, 0, 0)] (by decide +kernel) trivial ?_
    show Ev (d + 1) M_Mo_isAlike 0 0 94 [(2, v0), (0, v1), (0, v2), (0, v3), (0, v4), (0, v5), (0, iw (v6 + 1)), (0, v7)] [] kd m3 (zqI kd q)
    refine EvX.goto (off := (-68)) (tgt := 26) (by decide +kernel) (by decide) ?_
    exact EvX.weak (ls2 := [(2, v0), (0, v1), (0, v2), (0, v3), (0, v4), (0, v5), (0, iw (v6 + 1)), zJ]) (zwk_of ⟨Or.inr rfl, Or.inr rfl, Or.inr rfl, Or.inr rfl, Or.inr rfl, Or.inr rfl, Or.inr rfl, Or.inl rfl, trivial⟩) h
  · have h := h.2 hc
    refine EvX.blk (pc' := 51) [(.iload 5, 0, 0)] (by decide +kernel) trivial ?_
    show Ev (d + 1) M_Mo_isAlike 0 0 51 [(2, v0), (0, v1), (0, v2), (0, v3), (0, v4), (0, v5), (0, v6), (0, v7)] [(0, v5)] kd m3 (zqI kd q)
    refine EvX.if_eq (off := 31) (tgt := 82) (by decide +kernel) (by decide) (fun hc => ?_) (fun hc => ?_)
    · have h := h.1 hc
      refine EvX.blk (pc' := 88) [(.iconst 0, 0, 0), (.istore 5, 0, 0), (.iinc 7 1, 0, 0)] (by decide +kernel) trivial ?_
      show Ev (d + 1) M_Mo_isAlike 0 0 88 [(2, v0), (0, v1), (0, v2), (0, v3), (0, v4), (0, 0), (0, v6), (0, iw (v7 + 1))] [] kd m3 (zqI kd q)
      refine EvX.goto (off := (-49)) (tgt := 39) (by decide +kernel) (by decide) ?_
      exact h
    · have h := h.2 hc
      refine EvX.blk (pc' := 61) [(.aload_n 0, 0, 0), (.iload_n 1, 0, 0), (.iload_n 2, 0, 0), (.iload 6, 0, 0), (.iload 7, 0, 0)] (by decide +kernel) trivial ?_
      show Ev (d + 1) M_Mo_isAlike 0 0 61 [(2, v0), (0, v1), (0, v2), (0, v3), (0, v4), (0, v5), (0, v6), (0, v7)] [(0, v7), (0, v6), (0, v2), (0, v1), (2, v0)] kd m3 (zqI kd q)
      obtain ⟨ov, h⟩ := h
      obtain ⟨q4, hq, h⟩ := h
      refine EvX.callV (c := 8) (mc := 0) (ms := 0) (as := [(0, v1), (0, v2), (0, v6), (0, v7)]) (st := []) (by decide +kernel) l_Mo_197 k_Mo_isWin v_Mo_isWin a_Mo_isWin (by decide) (Nat.le_of_ble_eq_true rfl) rfl ov hq (fun r kd1 m6 hr => ?_)
      obtain ⟨x5, rfl, hk, hr⟩ := hr
      subst kd1
      have h := h x5 m6 hr
      show Ev (d + 1) M_Mo_isAlike 0 0 64 [(2, v0), (0, v1), (0, v2), (0, v3), (0, v4), (0, v5), (0, v6), (0, v7)] [(0, x5)] kd m6 (zqI kd q)
      refine EvX.blk (pc' := 72) [(.aload_n 0, 0, 0), (.iload_n 3, 0, 0), (.iload 4, 0, 0), (.iload 6, 0, 0), (.iload 7, 0, 0)] (by decide +kernel) trivial ?_
      show Ev (d + 1) M_Mo_isAlike 0 0 72 [(2, v0), (0, v1), (0, v2), (0, v3), (0, v4), (0, v5), (0, v6), (0, v7)] [(0, v7), (0, v6), (0, v4), (0, v3), (2, v0), (0, x5)] kd m6 (zqI kd q)
      obtain ⟨ov, h⟩ := h
      obtain ⟨q7, hq, h⟩ := h
      refine EvX.callV (c := 8) (mc := 0) (ms := 0) (as := [(0, v3), (0, v4), (0, v6), (0, v7)]) (st := [(0, x5)]) (by decide +kernel) l_Mo_197 k_Mo_isWin v_Mo_isWin a_Mo_isWin (by decide) (Nat.le_of_ble_eq_true rfl) rfl ov hq (fun r kd1 m9 hr => ?_)
      obtain ⟨x8, rfl, hk, hr⟩ := hr
      subst kd1
      have h := h x8 m9 hr
      show Ev (d + 1) M_Mo_isAlike 0 0 75 [(2, v0), (0, v1), (0, v2), (0, v3), (0, v4), (0, v5), (0, v6), (0, v7)] [(0, x8), (0, x5)] kd m9 (zqI kd q)
      refine EvX.icmp_ne (off := 7) (tgt := 82) (by decide +kernel) (by decide) (fun hc => ?_) (fun hc => ?_)
      · have h := h.1 hc
        refine EvX.blk (pc' := 88) [(.iconst 0, 0, 0), (.istore 5, 0, 0), (.iinc 7 1, 0, 0)] (by decide +kernel) trivial ?_
        show Ev (d + 1) M_Mo_isAlike 0 0 88 [(2, v0), (0, v1), (0, v2), (0, v3), (0, v4), (0, 0), (0, v6), (0, iw (v7 + 1))] [] kd m9 (zqI kd q)
        refine EvX.goto (off := (-49)) (tgt := 39) (by decide +kernel) (by decide) ?_
        exact h
      · have h := h.2 hc
        refine EvX.blk (pc' := 79) [(.iconst 1, 0, 0)] (by decide +kernel) trivial ?_
        show Ev (d + 1) M_Mo_isAlike 0 0 79 [(2, v0), (0, v1), (0, v2), (0, v3), (0, v4), (0, v5), (0, v6), (0, v7)] [(0, 1)] kd m9 (zqI kd q)
        refine EvX.goto (off := 4) (tgt := 83) (by decide +kernel) (by decide) ?_
        refine EvX.blk (pc' := 88) [(.istore 5, 0, 0), (.iinc 7 1, 0, 0)] (by decide +kernel) trivial ?_
        show Ev (d + 1) M_Mo_isAlike 0 0 88 [(2, v0), (0, v1), (0, v2), (0, v3), (0, v4), (0, 1), (0, v6), (0, iw (v7 + 1))] [] kd m9 (zqI kd q)
        refine EvX.goto (off := (-49)) (tgt := 39) (by decide +kernel) (by decide) ?_
        exact h
set_option maxRecDepth 20000 in
set_option maxHeartbeats 1000000 in
theorem T_Mo_ordersOfBen_0 {d : Nat} {kd : ZK} {m : ZM} {q : Int → ZM → Prop} {v0 v1 v2 : Int} (h : (zobj kd v0 8 ∧ ∃ q1, CtI d M_Mo_questions [(2, v0), (0, 1)] kd m q1 ∧ ∀ x2 m3, q1 x2 m3 → ((v1 ≠ x2 → (Ev (d + 1) M_Mo_ordersOfBen 0 0 16 [(2, v0), (0, v1), (0, v2), (0, 0), (0, 0), zJ, zJ] [] kd m3 (zqI kd q))) ∧ (¬ v1 ≠ x2 → q 1 m3)))) : Ev (d + 1) M_Mo_ordersOfBen 0 0 0 [(2, v0), (0, v1), (0, v2), zJ, zJ, zJ, zJ] [] kd m (zqI kd q) := by
  refine EvX.blk (pc' := 3) [(.iload_n 1, 0, 0), (.aload_n 0, 0, 0), (.iconst 1, 0, 0)] (by decide +kernel) trivial ?_
  show Ev (d + 1) M_Mo_ordersOfBen 0 0 3 [(2, v0), (0, v1), (0, v2), zJ, zJ, zJ, zJ] [(0, 1), (2, v0), (0, v1)] kd m (zqI kd q)
  obtain ⟨ov, h⟩ := h
  obtain ⟨q1, hq, h⟩ := h
  refine EvX.callV (c := 8) (mc := 0) (ms := 0) (as := [(0, 1)]) (st := [(0, v1)]) (by decide +kernel) l_Mo_163 k_Mo_questions v_Mo_questions a_Mo_questions (by decide) (Nat.le_of_ble_eq_true rfl) rfl ov hq (fun r kd1 m3 hr => ?_)
  obtain ⟨x2, rfl, hk, hr⟩ := hr
  subst kd1
  have h := h x2 m3 hr
  show Ev (d + 1) M_Mo_ordersOfBen 0 0 6 [(2, v0), (0, v1), (0, v2), zJ, zJ, zJ, zJ] [(0, x2), (0, v1)] kd m3 (zqI kd q)
  refine EvX.icmp_ne (off := 5) (tgt := 11) (by decide +kernel) (by decide) (fun hc => ?_) (fun hc => ?_)
  · have h := h.1 hc
    refine EvX.blk (pc' := 16) [(.iconst 0, 0, 0), (.istore_n 3, 0, 0), (.iconst 0, 0, 0), (.istore 4, 0, 0)] (by decide +kernel) trivial ?_
    show Ev (d + 1) M_Mo_ordersOfBen 0 0 16 [(2, v0), (0, v1), (0, v2), (0, 0), (0, 0), zJ, zJ] [] kd m3 (zqI kd q)
    exact h
  · have h := h.2 hc
    refine EvX.blk (pc' := 10) [(.iconst 1, 0, 0)] (by decide +kernel) trivial ?_
    show Ev (d + 1) M_Mo_ordersOfBen 0 0 10 [(2, v0), (0, v1), (0, v2), zJ, zJ, zJ, zJ] [(0, 1)] kd m3 (zqI kd q)
    exact EvX.ret (r := (0, 1)) (by decide +kernel) rfl ⟨_, rfl, rfl, h⟩
theorem S_Mo_ordersOfBen {d : Nat} {kd : ZK} {m : ZM} {q : Int → ZM → Prop} {v0 v1 v2 : Int} (h : (zobj kd v0 8 ∧ ∃ q1, CtI d M_Mo_questions [(2, v0), (0, 1)] kd m q1 ∧ ∀ x2 m3, q1 x2 m3 → ((v1 ≠ x2 → (Ev (d + 1) M_Mo_ordersOfBen 0 0 16 [(2, v0), (0, v1), (0, v2), (0, 0), (0, 0), zJ, zJ] [] kd m3 (zqI kd q))) ∧ (¬ v1 ≠ x2 → q 1 m3)))) : CtI (d + 1) M_Mo_ordersOfBen [(2, v0), (0, v1), (0, v2)] kd m q :=
  Ct.start k_Mo_ordersOfBen (Nat.le_of_ble_eq_true rfl) ⟨1, Or.inr (Or.inl ⟨rfl, rfl⟩)⟩ (T_Mo_ordersOfBen_0 h)
set_option maxRecDepth 20000 in
set_option maxHeartbeats 1000000 in
theorem T_Mo_ordersOfBen_16 {d : Nat} {kd : ZK} {m : ZM} {q : Int → ZM → Prop} {v0 v1 v2 v3 v4 : Int} (h : (zobj kd v0 8 ∧ ∃ q1, CtI d M_Mo_questions [(2, v0), (0, 1)] kd m q1 ∧ ∀ x2 m3, q1 x2 m3 → ((x2 ≤ v4 → q v3 m3) ∧ (¬ x2 ≤ v4 → (((zand (zshr v2 v4) 1) ≠ 0 → (Ev (d + 1) M_Mo_ordersOfBen 0 0 45 [(2, v0), (0, v1), (0, v2), (0, v3), (0, v4), (0, 0), (0, 0)] [] kd m3 (zqI kd q))) ∧ (¬ (zand (zshr v2 v4) 1) ≠ 0 → (Ev (d + 1) M_Mo_ordersOfBen 0 0 45 [(2, v0), (0, v1), (0, v2), (0, v3), (0, v4), (0, 1), (0, 0)] [] kd m3 (zqI kd q)))))))) : Ev (d + 1) M_Mo_ordersOfBen 0 0 16 [(2, v0), (0, v1), (0, v2), (0, v3), (0, v4), zJ, zJ] [] kd m (zqI kd q) := by
  refine EvX.blk (pc' := 20) [(.iload 4, 0, 0), (.aload_n 0, 0, 0), (.iconst 1, 0, 0)] (by decide +kernel) trivial ?_
  show Ev (d + 1) M_Mo_ordersOfBen 0 0 20 [(2, v0), (0, v1), (0, v2), (0, v3), (0, v4), zJ, zJ] [(0, 1), (2, v0), (0, v4)] kd m (zqI kd q)
  obtain ⟨ov, h⟩ := h
  obtain ⟨q1, hq, h⟩ := h
  refine EvX.callV (c := 8) (mc := 0) (ms := 0) (as := [(0, 1)]) (st := [(0, v4)]) (by decide +kernel) l_Mo_163 k_Mo_questions v_Mo_questions a_Mo_questions (by decide) (Nat.le_of_ble_eq_true rfl) rfl ov hq (fun r kd1 m3 hr => ?_)
  obtain ⟨x2, rfl, hk, hr⟩ := hr
  subst kd1
  have h := h x2 m3 hr
  show Ev (d + 1) M_Mo_ordersOfBen 0 0 23 [(2, v0), (0, v1), (0, v2), (0, v3), (0, v4), zJ, zJ] [(0, x2), (0, v4)] kd m3 (zqI kd q)
  refine EvX.icmp_ge (off := 100) (tgt := 123) (by decide +kernel) (by decide) (fun hc => ?_) (fun hc => ?_)
  · have h := h.1 hc
    refine EvX.blk (pc' := 124) [(.iload_n 3, 0, 0)] (by decide +kernel) trivial ?_
    show Ev (d + 1) M_Mo_ordersOfBen 0 0 124 [(2, v0), (0, v1), (0, v2), (0, v3), (0, v4), zJ, zJ] [(0, v3)] kd m3 (zqI kd q)
    exact EvX.ret (r := (0, v3)) (by decide +kernel) rfl ⟨_, rfl, rfl, h⟩
  · have h := h.2 hc
    refine EvX.blk (pc' := 32) [(.iload_n 2, 0, 0), (.iload 4, 0, 0), (.ishr, 0, 0), (.iconst 1, 0, 0), (.iand, 0, 0)] (by decide +kernel) trivial ?_
    show Ev (d + 1) M_Mo_ordersOfBen 0 0 32 [(2, v0), (0, v1), (0, v2), (0, v3), (0, v4), zJ, zJ] [(0, zand (zshr v2 v4) 1)] kd m3 (zqI kd q)
    refine EvX.if_ne (off := 7) (tgt := 39) (by decide +kernel) (by decide) (fun hc => ?_) (fun hc => ?_)
    · have h := h.1 hc
      refine EvX.blk (pc' := 45) [(.iconst 0, 0, 0), (.istore 5, 0, 0), (.iconst 0, 0, 0), (.istore 6, 0, 0)] (by decide +kernel) trivial ?_
      show Ev (d + 1) M_Mo_ordersOfBen 0 0 45 [(2, v0), (0, v1), (0, v2), (0, v3), (0, v4), (0, 0), (0, 0)] [] kd m3 (zqI kd q)
      exact h
    · have h := h.2 hc
      refine EvX.blk (pc' := 36) [(.iconst 1, 0, 0)] (by decide +kernel) trivial ?_
      show Ev (d + 1) M_Mo_ordersOfBen 0 0 36 [(2, v0), (0, v1), (0, v2), (0, v3), (0, v4), zJ, zJ] [(0, 1)] kd m3 (zqI kd q)
      refine EvX.goto (off := 4) (tgt := 40) (by decide +kernel) (by decide) ?_
      refine EvX.blk (pc' := 45) [(.istore 5, 0, 0), (.iconst 0, 0, 0), (.istore 6, 0, 0)] (by decide +kernel) trivial ?_
      show Ev (d + 1) M_Mo_ordersOfBen 0 0 45 [(2, v0), (0, v1), (0, v2), (0, v3), (0, v4), (0, 1), (0, 0)] [] kd m3 (zqI kd q)
      exact h
set_option maxRecDepth 20000 in
set_option maxHeartbeats 1000000 in
theorem T_Mo_ordersOfBen_45 {d : Nat} {kd : ZK} {m : ZM} {q : Int → ZM → Prop} {v0 v1 v2 v3 v4 v5 v6 : Int} (h : (zobj kd v0 8 ∧ ∃ q1, CtI d M_Mo_questions [(2, v0), (0, 0)] kd m q1 ∧ ∀ x2 m3, q1 x2 m3 → ((x2 ≤ v6 → (Ev (d + 1) M_Mo_ordersOfBen 0 0 84 [(2, v0), (0, v1), (0, v2), (0, v3), (0, v4), (0, v5), zJ] [] kd m3 (zqI kd q))) ∧ (¬ x2 ≤ v6 → ((v5 = 0 → (Ev (d + 1) M_Mo_ordersOfBen 0 0 84 [(2, v0), (0, v1), (0, v2), (0, v3), (0, v4), (0, v5), zJ] [] kd m3 (zqI kd q))) ∧ (¬ v5 = 0 → (zobj kd v0 8 ∧ zIn kd (m3 v0 21) 0 v6 ∧ (zobj kd v0 8 ∧ ∃ q4, CtI d M_Mo_isAlike [(2, v0), (0, v6), (0, v1), (0, m3 (m3 v0 21) v6), (0, v4)] kd m3 q4 ∧ ∀ x5 m6, q4 x5 m6 → (Ev (d + 1) M_Mo_ordersOfBen 0 0 45 [(2, v0), (0, v1), (0, v2), (0, v3), (0, v4), (0, x5), (0, iw (v6 + 1))] [] kd m6 (zqI kd q)))))))))) : Ev (d + 1) M_Mo_ordersOfBen 0 0 45 [(2, v0), (0, v1), (0, v2), (0, v3), (0, v4), (0, v5), (0, v6)] [] kd m (zqI kd q) := by
  refine EvX.blk (pc' := 49) [(.iload 6, 0, 0), (.aload_n 0, 0, 0), (.iconst 0, 0, 0)] (by decide +kernel) trivial ?_
  show Ev (d + 1) M_Mo_ordersOfBen 0 0 49 [(2, v0), (0, v1), (0, v2), (0, v3), (0, v4), (0, v5), (0, v6)] [(0, 0), (2, v0), (0, v6)] kd m (zqI kd q)
  obtain ⟨ov, h⟩ := h
  obtain ⟨q1, hq, h⟩ := h
  refine EvX.callV (c := 8) (mc := 0) (ms := 0) (as := [(0, 0)]) (st := [(0, v6)]) (by decide +kernel) l_Mo_163 k_Mo_questions v_Mo_questions a_Mo_questions (by decide) (Nat.le_of_ble_eq_true rfl) rfl ov hq (fun r kd1 m3 hr => ?_)
  obtain ⟨x2, rfl, hk, hr⟩ := hr
  subst kd1
  have h := h x2 m3 hr
  show Ev (d + 1) M_Mo_ordersOfBen 0 0 52 [(2, v0), (0, v1), (0, v2), (0, v3), (0, v4), (0, v5), (0, v6)] [(0, x2), (0, v6)] kd m3 (zqI kd q)
  refine EvX.icmp_ge (off := 32) (tgt := 84) (by decide +kernel) (by decide) (fun hc => ?_) (fun hc => ?_)
  · have h := h.1 hc
    exact EvX.weak (ls2 := [(2, v0), (0, v1), (0, v2), (0, v3), (0, v4), (0, v5), zJ]) (zwk_of ⟨Or.inr rfl, Or.inr rfl, Or.inr rfl, Or.inr rfl, Or.inr rfl, Or.inr rfl, Or.inl rfl, trivial⟩) h
  · have h := h.2 hc
    refine EvX.blk (pc' := 57) [(.iload 5, 0, 0)] (by decide +kernel) trivial ?_
    show Ev (d + 1) M_Mo_ordersOfBen 0 0 57 [(2, v0), (0, v1), (0, v2), (0, v3), (0, v4), (0, v5), (0, v6)] [(0, v5)] kd m3 (zqI kd q)
    refine EvX.if_eq (off := 27) (tgt := 84) (by decide +kernel) (by decide) (fun hc => ?_) (fun hc => ?_)
    · have h := h.1 hc
      exact EvX.weak (ls2 := [(2, v0), (0, v1), (0, v2), (0, v3), (0, v4), (0, v5), zJ]) (zwk_of ⟨Or.inr rfl, Or.inr rfl, Or.inr rfl, Or.inr rfl, Or.inr rfl, Or.inr rfl, Or.inl rfl, trivial⟩) h
    · have h := h.2 hc
      obtain ⟨o1, o2, h⟩ := h
      refine EvX.blk (pc' := 73) [(.aload_n 0, 0, 0), (.iload 6, 0, 0), (.iload_n 1, 0, 0), (.aload_n 0, 0, 0), (.getfield 54, 8, 21), (.iload 6, 0, 0), (.iaload, 0, 0), (.iload 4, 0, 0)] (by decide +kernel) ⟨g_Mo_54, trivial⟩ ⟨o1, o2, ?_⟩
      show Ev (d + 1) M_Mo_ordersOfBen 0 0 73 [(2, v0), (0, v1), (0, v2), (0, v3), (0, v4), (0, v5), (0, v6)] [(0, v4), (0, m3 (m3 v0 21) v6), (0, v1), (0, v6), (2, v0)] kd m3 (zqI kd q)
      obtain ⟨ov, h⟩ := h
      obtain ⟨q4, hq, h⟩ := h
      refine EvX.callV (c := 8) (mc := 0) (ms := 0) (as := [(0, v6), (0, v1), (0, m3 (m3 v0 21) v6), (0, v4)]) (st := []) (by decide +kernel) l_Mo_373 k_Mo_isAlike v_Mo_isAlike a_Mo_isAlike (by decide) (Nat.le_of_ble_eq_true rfl) rfl ov hq (fun r kd1 m6 hr => ?_)
      obtain ⟨x5, rfl, hk, hr⟩ := hr
      subst kd1
      have h := h x5 m6 hr
      show Ev (d + 1) M_Mo_ordersOfBen 0 0 76 [(2, v0), (0, v1), (0, v2), (0, v3), (0, v4), (0, v5), (0, v6)] [(0, x5)] kd m6 (zqI kd q)
      refine EvX.blk (pc' := 81) [(.istore 5, 0, 0), (.iinc 6 1, 0, 0)] (by decide +kernel) trivial ?_
      show Ev (d + 1) M_Mo_ordersOfBen 0 0 81 [(2, v0), (0, v1), (0, v2), (0, v3), (0, v4), (0, x5), (0, iw (v6 + 1))] [] kd m6 (zqI kd q)
      refine EvX.goto (off := (-36)) (tgt := 45) (by decide +kernel) (by decide) ?_
      exact h
set_option maxRecDepth 20000 in
set_option maxHeartbeats 1000000 in
theorem T_Mo_ordersOfBen_84 {d : Nat} {kd : ZK} {m : ZM} {q : Int → ZM → Prop} {v0 v1 v2 v3 v4 v5 : Int} (h : (zobj kd v0 8 ∧ zIn kd (m v0 22) 0 v1 ∧ ((v5 = 0 → (Ev (d + 1) M_Mo_ordersOfBen 0 0 16 [(2, v0), (0, v1), (0, v2), (0, iw (v3 + 0)), (0, iw (v4 + 1)), zJ, zJ] [] kd (zup m (m v0 22) v1 v4) (zqI kd q))) ∧ (¬ v5 = 0 → (zobj kd v0 8 ∧ ∃ q1, CtI d M_Mo_ordersOfBen [(2, v0), (0, iw (v1 + 1)), (0, zor v2 (zshl 1 v4))] kd (zup m (m v0 22) v1 v4) q1 ∧ ∀ x2 m3, q1 x2 m3 → (Ev (d + 1) M_Mo_ordersOfBen 0 0 16 [(2, v0), (0, v1), (0, v2), (0, iw (v3 + x2)), (0, iw (v4 + 1)), zJ, zJ] [] kd m3 (zqI kd q))))))) : Ev (d + 1) M_Mo_ordersOfBen 0 0 84 [(2, v0), (0, v1), (0, v2), (0, v3), (0, v4), (0, v5), zJ] [] kd m (zqI kd q) := by
  obtain ⟨o1, o2, h⟩ := h
  refine EvX.blk (pc' := 95) [(.aload_n 0, 0, 0), (.getfield 57, 8, 22), (.iload_n 1, 0, 0), (.iload 4, 0, 0), (.iastore, 0, 0), (.iload_n 3, 0, 0), (.iload 5, 0, 0)] (by decide +kernel) ⟨g_Mo_57, trivial⟩ ⟨o1, o2, ?_⟩
  show Ev (d + 1) M_Mo_ordersOfBen 0 0 95 [(2, v0), (0, v1), (0, v2), (0, v3), (0, v4), (0, v5), zJ] [(0, v5), (0, v3)] kd (zup m (m v0 22) v1 v4) (zqI kd q)
  refine EvX.if_eq (off := 19) (tgt := 114) (by decide +kernel) (by decide) (fun hc => ?_) (fun hc => ?_)
  · have h := h.1 hc
    refine EvX.blk (pc' := 120) [(.iconst 0, 0, 0), (.iadd, 0, 0), (.istore_n 3, 0, 0), (.iinc 4 1, 0, 0)] (by decide +kernel) trivial ?_
    show Ev (d + 1) M_Mo_ordersOfBen 0 0 120 [(2, v0), (0, v1), (0, v2), (0, iw (v3 + 0)), (0, iw (v4 + 1)), (0, v5), zJ] [] kd (zup m (m v0 22) v1 v4) (zqI kd q)
    refine EvX.goto (off := (-104)) (tgt := 16) (by decide +kernel) (by decide) ?_
    exact EvX.weak (ls2 := [(2, v0), (0, v1), (0, v2), (0, iw (v3 + 0)), (0, iw (v4 + 1)), zJ, zJ]) (zwk_of ⟨Or.inr rfl, Or.inr rfl, Or.inr rfl, Or.inr rfl, Or.inr rfl, Or.inl rfl, Or.inl rfl, trivial⟩) h
  · have h := h.2 hc
    refine EvX.blk (pc' := 108) [(.aload_n 0, 0, 0), (.iload_n 1, 0, 0), (.iconst 1, 0, 0), (.iadd, 0, 0), (.iload_n 2, 0, 0), (.iconst 1, 0, 0), (.iload 4, 0, 0), (.ishl, 0, 0), (.ior, 0, 0)] (by decide +kernel) trivial ?_
    show Ev (d + 1) M_Mo_ordersOfBen 0 0 108 [(2, v0), (0, v1), (0, v2), (0, v3), (0, v4), (0, v5), zJ] [(0, zor v2 (zshl 1 v4)), (0, iw (v1 + 1)), (2, v0), (0, v3)] kd (zup m (m v0 22) v1 v4) (zqI kd q)
    obtain ⟨ov, h⟩ := h
    obtain ⟨q1, hq, h⟩ := h
    refine EvX.callV (c := 8) (mc := 0) (ms := 0) (as := [(0, iw (v1 + 1)), (0, zor v2 (zshl 1 v4))]) (st := [(0, v3)]) (by decide +kernel) l_Mo_376 k_Mo_ordersOfBen v_Mo_ordersOfBen a_Mo_ordersOfBen (by decide) (Nat.le_of_ble_eq_true rfl) rfl ov hq (fun r kd1 m3 hr => ?_)
    obtain ⟨x2, rfl, hk, hr⟩ := hr
    subst kd1
    have h := h x2 m3 hr
    show Ev (d + 1) M_Mo_ordersOfBen 0 0 111 [(2, v0), (0, v1), (0, v2), (0, v3), (0, v4), (0, v5), zJ] [(0, x2), (0, v3)] kd m3 (zqI kd q)
    refine EvX.goto (off := 4) (tgt := 115) (by decide +kernel) (by decide) ?_
    refine EvX.blk (pc' := 120) [(.iadd, 0, 0), (.istore_n 3, 0, 0), (.iinc 4 1, 0, 0)] (by decide +kernel) trivial ?_
    show Ev (d + 1) M_Mo_ordersOfBen 0 0 120 [(2, v0), (0, v1), (0, v2), (0, iw (v3 + x2)), (0, iw (v4 + 1)), (0, v5), zJ] [] kd m3 (zqI kd q)
    refine EvX.goto (off := (-104)) (tgt := 16) (by decide +kernel) (by decide) ?_
    exact EvX.weak (ls2 := [(2, v0), (0, v1), (0, v2), (0, iw (v3 + x2)), (0, iw (v4 + 1)), zJ, zJ]) (zwk_of ⟨Or.inr rfl, Or.inr rfl, Or.inr rfl, Or.inr rfl, Or.inr rfl, Or.inl rfl, Or.inl rfl, trivial⟩) h
set_option maxRecDepth 20000 in
set_option maxHeartbeats 1000000 in
theorem T_Mo_ordersOfAnn_0 {d : Nat} {kd : ZK} {m : ZM} {q : Int → ZM → Prop} {v0 v1 v2 : Int} (h : (zobj kd v0 8 ∧ ∃ q1, CtI d M_Mo_questions [(2, v0), (0, 0)] kd m q1 ∧ ∀ x2 m3, q1 x2 m3 → ((v1 ≠ x2 → (Ev (d + 1) M_Mo_ordersOfAnn 0 0 21 [(2, v0), (0, v1), (0, v2), (0, 0), (0, 0)] [] kd m3 (zqI kd q))) ∧ (¬ v1 ≠ x2 → (zobj kd v0 8 ∧ ∃ q4, CtI d M_Mo_ordersOfBen [(2, v0), (0, 0), (0, 0)] kd m3 q4 ∧ ∀ x5 m6, q4 x5 m6 → q x5 m6))))) : Ev (d + 1) M_Mo_ordersOfAnn 0 0 0 [(2, v0), (0, v1), (0, v2), zJ, zJ] [] kd m (zqI kd q) := by
  refine EvX.blk (pc' := 3) [(.iload_n 1, 0, 0), (.aload_n 0, 0, 0), (.iconst 0, 0, 0)] (by decide +kernel) trivial ?_
  show Ev (d + 1) M_Mo_ordersOfAnn 0 0 3 [(2, v0), (0, v1), (0, v2), zJ, zJ] [(0, 0), (2, v0), (0, v1)] kd m (zqI kd q)
  obtain ⟨ov, h⟩ := h
  obtain ⟨q1, hq, h⟩ := h
  refine EvX.callV (c := 8) (mc := 0) (ms := 0) (as := [(0, 0)]) (st := [(0, v1)]) (by decide +kernel) l_Mo_163 k_Mo_questions v_Mo_questions a_Mo_questions (by decide) (Nat.le_of_ble_eq_true rfl) rfl ov hq (fun r kd1 m3 hr => ?_)
  obtain ⟨x2, rfl, hk, hr⟩ := hr
  subst kd1
  have h := h x2 m3 hr
  show Ev (d + 1) M_Mo_ordersOfAnn 0 0 6 [(2, v0), (0, v1), (0, v2), zJ, zJ] [(0, x2), (0, v1)] kd m3 (zqI kd q)
  refine EvX.icmp_ne (off := 10) (tgt := 16) (by decide +kernel) (by decide) (fun hc => ?_) (fun hc => ?_)
  · have h := h.1 hc
    refine EvX.blk (pc' := 21) [(.iconst 0, 0, 0), (.istore_n 3, 0, 0), (.iconst 0, 0, 0), (.istore 4, 0, 0)] (by decide +kernel) trivial ?_
    show Ev (d + 1) M_Mo_ordersOfAnn 0 0 21 [(2, v0), (0, v1), (0, v2), (0, 0), (0, 0)] [] kd m3 (zqI kd q)
    exact h
  · have h := h.2 hc
    refine EvX.blk (pc' := 12) [(.aload_n 0, 0, 0), (.iconst 0, 0, 0), (.iconst 0, 0, 0)] (by decide +kernel) trivial ?_
    show Ev (d + 1) M_Mo_ordersOfAnn 0 0 12 [(2, v0), (0, v1), (0, v2), zJ, zJ] [(0, 0), (0, 0), (2, v0)] kd m3 (zqI kd q)
    obtain ⟨ov, h⟩ := h
    obtain ⟨q4, hq, h⟩ := h
    refine EvX.callV (c := 8) (mc := 0) (ms := 0) (as := [(0, 0), (0, 0)]) (st := []) (by decide +kernel) l_Mo_376 k_Mo_ordersOfBen v_Mo_ordersOfBen a_Mo_ordersOfBen (by decide) (Nat.le_of_ble_eq_true rfl) rfl ov hq (fun r kd1 m6 hr => ?_)
    obtain ⟨x5, rfl, hk, hr⟩ := hr
    subst kd1
    have h := h x5 m6 hr
    show Ev (d + 1) M_Mo_ordersOfAnn 0 0 15 [(2, v0), (0, v1), (0, v2), zJ, zJ] [(0, x5)] kd m6 (zqI kd q)
    exact EvX.ret (r := (0, x5)) (by decide +kernel) rfl ⟨_, rfl, rfl, h⟩
theorem S_Mo_ordersOfAnn {d : Nat} {kd : ZK} {m : ZM} {q : Int → ZM → Prop} {v0 v1 v2 : Int} (h : (zobj kd v0 8 ∧ ∃ q1, CtI d M_Mo_questions [(2, v0), (0, 0)] kd m q1 ∧ ∀ x2 m3, q1 x2 m3 → ((v1 ≠ x2 → (Ev (d + 1) M_Mo_ordersOfAnn 0 0 21 [(2, v0), (0, v1), (0, v2), (0, 0), (0, 0)] [] kd m3 (zqI kd q))) ∧ (¬ v1 ≠ x2 → (zobj kd v0 8 ∧ ∃ q4, CtI d M_Mo_ordersOfBen [(2, v0), (0, 0), (0, 0)] kd m3 q4 ∧ ∀ x5 m6, q4 x5 m6 → q x5 m6))))) : CtI (d + 1) M_Mo_ordersOfAnn [(2, v0), (0, v1), (0, v2)] kd m q :=
  Ct.start k_Mo_ordersOfAnn (Nat.le_of_ble_eq_true rfl) ⟨1, Or.inr (Or.inl ⟨rfl, rfl⟩)⟩ (T_Mo_ordersOfAnn_0 h)
set_option maxRecDepth 20000 in
set_option maxHeartbeats 1000000 in
theorem T_Mo_ordersOfAnn_21 {d : Nat} {kd : ZK} {m : ZM} {q : Int → ZM → Prop} {v0 v1 v2 v3 v4 : Int} (h : (zobj kd v0 8 ∧ ∃ q1, CtI d M_Mo_questions [(2, v0), (0, 0)] kd m q1 ∧ ∀ x2 m3, q1 x2 m3 → ((x2 ≤ v4 → q v3 m3) ∧ (¬ x2 ≤ v4 → (((zand (zshr v2 v4) 1) ≠ 1 → (zobj kd v0 8 ∧ zIn kd (m3 v0 21) 0 v1 ∧ (zobj kd v0 8 ∧ ∃ q4, CtI d M_Mo_ordersOfAnn [(2, v0), (0, iw (v1 + 1)), (0, zor v2 (zshl 1 v4))] kd (zup m3 (m3 v0 21) v1 v4) q4 ∧ ∀ x5 m6, q4 x5 m6 → (Ev (d + 1) M_Mo_ordersOfAnn 0 0 21 [(2, v0), (0, v1), (0, v2), (0, iw (v3 + x5)), (0, iw (v4 + 1))] [] kd m6 (zqI kd q))))) ∧ (¬ (zand (zshr v2 v4) 1) ≠ 1 → (Ev (d + 1) M_Mo_ordersOfAnn 0 0 21 [(2, v0), (0, v1), (0, v2), (0, v3), (0, iw (v4 + 1))] [] kd m3 (zqI kd q)))))))) : Ev (d + 1) M_Mo_ordersOfAnn 0 0 21 [(2, v0), (0, v1), (0, v2), (0, v3), (0, v4)] [] kd m (zqI kd q) := by
  refine EvX.blk (pc' := 25) [(.iload 4, 0, 0), (.aload_n 0, 0, 0), (.iconst 0, 0, 0)] (by decide +kernel) trivial ?_
  show Ev (d + 1) M_Mo_ordersOfAnn 0 0 25 [(2, v0), (0, v1), (0, v2), (0, v3), (0, v4)] [(0, 0), (2, v0), (0, v4)] kd m (zqI kd q)
  obtain ⟨ov, h⟩ := h
  obtain ⟨q1, hq, h⟩ := h
  refine EvX.callV (c := 8) (mc := 0) (ms := 0) (as := [(0, 0)]) (st := [(0, v4)]) (by decide +kernel) l_Mo_163 k_Mo_questions v_Mo_questions a_Mo_questions (by decide) (Nat.le_of_ble_eq_true rfl) rfl ov hq (fun r kd1 m3 hr => ?_)
  obtain ⟨x2, rfl, hk, hr⟩ := hr
  subst kd1
  have h := h x2 m3 hr
  show Ev (d + 1) M_Mo_ordersOfAnn 0 0 28 [(2, v0), (0, v1), (0, v2), (0, v3), (0, v4)] [(0, x2), (0, v4)] kd m3 (zqI kd q)
  refine EvX.icmp_ge (off := 46) (tgt := 74) (by decide +kernel) (by decide) (fun hc => ?_) (fun hc => ?_)
  · have h := h.1 hc
    refine EvX.blk (pc' := 75) [(.iload_n 3, 0, 0)] (by decide +kernel) trivial ?_
    show Ev (d + 1) M_Mo_ordersOfAnn 0 0 75 [(2, v0), (0, v1), (0, v2), (0, v3), (0, v4)] [(0, v3)] kd m3 (zqI kd q)
    exact EvX.ret (r := (0, v3)) (by decide +kernel) rfl ⟨_, rfl, rfl, h⟩
  · have h := h.2 hc
    refine EvX.blk (pc' := 38) [(.iload_n 2, 0, 0), (.iload 4, 0, 0), (.ishr, 0, 0), (.iconst 1, 0, 0), (.iand, 0, 0), (.iconst 1, 0, 0)] (by decide +kernel) trivial ?_
    show Ev (d + 1) M_Mo_ordersOfAnn 0 0 38 [(2, v0), (0, v1), (0, v2), (0, v3), (0, v4)] [(0, 1), (0, zand (zshr v2 v4) 1)] kd m3 (zqI kd q)
    refine EvX.icmp_ne (off := 6) (tgt := 44) (by decide +kernel) (by decide) (fun hc => ?_) (fun hc => ?_)
    · have h := h.1 hc
      obtain ⟨o1, o2, h⟩ := h
      refine EvX.blk (pc' := 63) [(.aload_n 0, 0, 0), (.getfield 54, 8, 21), (.iload_n 1, 0, 0), (.iload 4, 0, 0), (.iastore, 0, 0), (.iload_n 3, 0, 0), (.aload_n 0, 0, 0), (.iload_n 1, 0, 0), (.iconst 1, 0, 0), (.iadd, 0, 0), (.iload_n 2, 0, 0), (.iconst 1, 0, 0), (.iload 4, 0, 0), (.ishl, 0, 0), (.ior, 0, 0)] (by decide +kernel) ⟨g_Mo_54, trivial⟩ ⟨o1, o2, ?_⟩
      show Ev (d + 1) M_Mo_ordersOfAnn 0 0 63 [(2, v0), (0, v1), (0, v2), (0, v3), (0, v4)] [(0, zor v2 (zshl 1 v4)), (0, iw (v1 + 1)), (2, v0), (0, v3)] kd (zup m3 (m3 v0 21) v1 v4) (zqI kd q)
      obtain ⟨ov, h⟩ := h
      obtain ⟨q4, hq, h⟩ := h
      refine EvX.callV (c := 8) (mc := 0) (ms := 0) (as := [(0, iw (v1 + 1)), (0, zor v2 (zshl 1 v4))]) (st := [(0, v3)]) (by decide +kernel) l_Mo_379 k_Mo_ordersOfAnn v_Mo_ordersOfAnn a_Mo_ordersOfAnn (by decide) (Nat.le_of_ble_eq_true rfl) rfl ov hq (fun r kd1 m6 hr => ?_)
      obtain ⟨x5, rfl, hk, hr⟩ := hr
      subst kd1
      have h := h x5 m6 hr
      show Ev (d + 1) M_Mo_ordersOfAnn 0 0 66 [(2, v0), (0, v1), (0, v2), (0, v3), (0, v4)] [(0, x5), (0, v3)] kd m6 (zqI kd q)
      refine EvX.blk (pc' := 71) [(.iadd, 0, 0), (.istore_n 3, 0, 0), (.iinc 4 1, 0, 0)] (by decide +kernel) trivial ?_
      show Ev (d + 1) M_Mo_ordersOfAnn 0 0 71 [(2, v0), (0, v1), (0, v2), (0, iw (v3 + x5)), (0, iw (v4 + 1))] [] kd m6 (zqI kd q)
      refine EvX.goto (off := (-50)) (tgt := 21) (by decide +kernel) (by decide) ?_
      exact h
    · have h := h.2 hc
      refine EvX.goto (off := 27) (tgt := 68) (by decide +kernel) (by decide) ?_
      refine EvX.blk (pc' := 71) [(.iinc 4 1, 0, 0)] (by decide +kernel) trivial ?_
      show Ev (d + 1) M_Mo_ordersOfAnn 0 0 71 [(2, v0), (0, v1), (0, v2), (0, v3), (0, iw (v4 + 1))] [] kd m3 (zqI kd q)
      refine EvX.goto (off := (-50)) (tgt := 21) (by decide +kernel) (by decide) ?_
      exact h
set_option maxRecDepth 20000 in
set_option maxHeartbeats 1000000 in
theorem T_Mo_symmetries_0 {d : Nat} {kd : ZK} {m : ZM} {q : Int → ZM → Prop} {v0 : Int} (h : (zobj kd v0 8 ∧ ∃ q1, CtI d M_Mo_hasGame [(2, v0)] kd m q1 ∧ ∀ x2 m3, q1 x2 m3 → ((x2 = 0 → q (-1) m3) ∧ (¬ x2 = 0 → (zobj kd v0 8 ∧ ∃ q4, CtI d M_Mo_ordersOfAnn [(2, v0), (0, 0), (0, 0)] kd m3 q4 ∧ ∀ x5 m6, q4 x5 m6 → q x5 m6))))) : Ev (d + 1) M_Mo_symmetries 0 0 0 [(2, v0)] [] kd m (zqI kd q) := by
  refine EvX.blk (pc' := 1) [(.aload_n 0, 0, 0)] (by decide +kernel) trivial ?_
  show Ev (d + 1) M_Mo_symmetries 0 0 1 [(2, v0)] [(2, v0)] kd m (zqI kd q)
  obtain ⟨ov, h⟩ := h
  obtain ⟨q1, hq, h⟩ := h
  refine EvX.callV (c := 8) (mc := 0) (ms := 0) (as := []) (st := []) (by decide +kernel) l_Mo_215 k_Mo_hasGame v_Mo_hasGame a_Mo_hasGame (by decide) (Nat.le_of_ble_eq_true rfl) rfl ov hq (fun r kd1 m3 hr => ?_)
  obtain ⟨x2, rfl, hk, hr⟩ := hr
  subst kd1
  have h := h x2 m3 hr
  show Ev (d + 1) M_Mo_symmetries 0 0 4 [(2, v0)] [(0, x2)] kd m3 (zqI kd q)
  refine EvX.if_eq (off := 12) (tgt := 16) (by decide +kernel) (by decide) (fun hc => ?_) (fun hc => ?_)
  · have h := h.1 hc
    refine EvX.blk (pc' := 17) [(.iconst (-1), 0, 0)] (by decide +kernel) trivial ?_
    show Ev (d + 1) M_Mo_symmetries 0 0 17 [(2, v0)] [(0, (-1))] kd m3 (zqI kd q)
    exact EvX.ret (r := (0, (-1))) (by decide +kernel) rfl ⟨_, rfl, rfl, h⟩
  · have h := h.2 hc
    refine EvX.blk (pc' := 10) [(.aload_n 0, 0, 0), (.iconst 0, 0, 0), (.iconst 0, 0, 0)] (by decide +kernel) trivial ?_
    show Ev (d + 1) M_Mo_symmetries 0 0 10 [(2, v0)] [(0, 0), (0, 0), (2, v0)] kd m3 (zqI kd q)
    obtain ⟨ov, h⟩ := h
    obtain ⟨q4, hq, h⟩ := h
    refine EvX.callV (c := 8) (mc := 0) (ms := 0) (as := [(0, 0), (0, 0)]) (st := []) (by decide +kernel) l_Mo_379 k_Mo_ordersOfAnn v_Mo_ordersOfAnn a_Mo_ordersOfAnn (by decide) (Nat.le_of_ble_eq_true rfl) rfl ov hq (fun r kd1 m6 hr => ?_)
    obtain ⟨x5, rfl, hk, hr⟩ := hr
    subst kd1
    have h := h x5 m6 hr
    show Ev (d + 1) M_Mo_symmetries 0 0 13 [(2, v0)] [(0, x5)] kd m6 (zqI kd q)
    refine EvX.goto (off := 4) (tgt := 17) (by decide +kernel) (by decide) ?_
    exact EvX.ret (r := (0, x5)) (by decide +kernel) rfl ⟨_, rfl, rfl, h⟩
theorem S_Mo_symmetries {d : Nat} {kd : ZK} {m : ZM} {q : Int → ZM → Prop} {v0 : Int} (h : (zobj kd v0 8 ∧ ∃ q1, CtI d M_Mo_hasGame [(2, v0)] kd m q1 ∧ ∀ x2 m3, q1 x2 m3 → ((x2 = 0 → q (-1) m3) ∧ (¬ x2 = 0 → (zobj kd v0 8 ∧ ∃ q4, CtI d M_Mo_ordersOfAnn [(2, v0), (0, 0), (0, 0)] kd m3 q4 ∧ ∀ x5 m6, q4 x5 m6 → q x5 m6))))) : CtI (d + 1) M_Mo_symmetries [(2, v0)] kd m q :=
  Ct.start k_Mo_symmetries (Nat.le_of_ble_eq_true rfl) ⟨1, Or.inr (Or.inl ⟨rfl, rfl⟩)⟩ (T_Mo_symmetries_0 h)
set_option maxRecDepth 20000 in
set_option maxHeartbeats 1000000 in
theorem T_Mo_writes_0 {d : Nat} {kd : ZK} {m : ZM} {q : ZM → Prop} {v0 v1 : Int} (h : (zobj kd v0 8 ∧ zobj kd v0 8 ∧ (((m v0 23) ≠ (m v0 24) → (zobj kd v0 8 ∧ zobj kd v0 8 ∧ q (zup m v0 23 (iw ((m v0 23) + 1))))) ∧ (¬ (m v0 23) ≠ (m v0 24) → (zobj kd v0 8 ∧ zobj kd v0 8 ∧ zobj kd v0 8 ∧ q (zup (zup m v0 25 v1) v0 23 (iw (((zup m v0 25 v1) v0 23) + 1)))))))) : Ev (d + 1) M_Mo_writes 0 0 0 [(2, v0), (0, v1)] [] kd m (zqV kd q) := by
  obtain ⟨o1, o2, h⟩ := h
  refine EvX.blk (pc' := 8) [(.aload_n 0, 0, 0), (.getfield 382, 8, 23), (.aload_n 0, 0, 0), (.getfield 385, 8, 24)] (by decide +kernel) ⟨g_Mo_382, g_Mo_385, trivial⟩ ⟨o1, o2, ?_⟩
  show Ev (d + 1) M_Mo_writes 0 0 8 [(2, v0), (0, v1)] [(0, m v0 24), (0, m v0 23)] kd m (zqV kd q)
  refine EvX.icmp_ne (off := 8) (tgt := 16) (by decide +kernel) (by decide) (fun hc => ?_) (fun hc => ?_)
  · have h := h.1 hc
    obtain ⟨o1, o2, h⟩ := h
    refine EvX.blk (pc' := 26) [(.aload_n 0, 0, 0), (.dup, 0, 0), (.getfield 382, 8, 23), (.iconst 1, 0, 0), (.iadd, 0, 0), (.putfield 382, 8, 23)] (by decide +kernel) ⟨g_Mo_382, ⟨g_Mo_382, p_Mo_382⟩, trivial⟩ ⟨o1, rfl, o2, ?_⟩
    show Ev (d + 1) M_Mo_writes 0 0 26 [(2, v0), (0, v1)] [] kd (zup m v0 23 (iw ((m v0 23) + 1))) (zqV kd q)
    exact EvX.ret (r := zJ) (by decide +kernel) rfl ⟨rfl, rfl, h⟩
  · have h := h.2 hc
    obtain ⟨o1, o2, o3, h⟩ := h
    refine EvX.blk (pc' := 26) [(.aload_n 0, 0, 0), (.iload_n 1, 0, 0), (.putfield 388, 8, 25), (.aload_n 0, 0, 0), (.dup, 0, 0), (.getfield 382, 8, 23), (.iconst 1, 0, 0), (.iadd, 0, 0), (.putfield 382, 8, 23)] (by decide +kernel) ⟨⟨g_Mo_388, p_Mo_388⟩, g_Mo_382, ⟨g_Mo_382, p_Mo_382⟩, trivial⟩ ⟨rfl, o1, o2, rfl, o3, ?_⟩
    show Ev (d + 1) M_Mo_writes 0 0 26 [(2, v0), (0, v1)] [] kd (zup (zup m v0 25 v1) v0 23 (iw (((zup m v0 25 v1) v0 23) + 1))) (zqV kd q)
    exact EvX.ret (r := zJ) (by decide +kernel) rfl ⟨rfl, rfl, h⟩
theorem S_Mo_writes {d : Nat} {kd : ZK} {m : ZM} {q : ZM → Prop} {v0 v1 : Int} (h : (zobj kd v0 8 ∧ zobj kd v0 8 ∧ (((m v0 23) ≠ (m v0 24) → (zobj kd v0 8 ∧ zobj kd v0 8 ∧ q (zup m v0 23 (iw ((m v0 23) + 1))))) ∧ (¬ (m v0 23) ≠ (m v0 24) → (zobj kd v0 8 ∧ zobj kd v0 8 ∧ zobj kd v0 8 ∧ q (zup (zup m v0 25 v1) v0 23 (iw (((zup m v0 25 v1) v0 23) + 1)))))))) : CtV (d + 1) M_Mo_writes [(2, v0), (0, v1)] kd m q :=
  Ct.start k_Mo_writes (Nat.le_of_ble_eq_true rfl) ⟨0, Or.inl ⟨rfl, rfl⟩⟩ (T_Mo_writes_0 h)
set_option maxRecDepth 20000 in
set_option maxHeartbeats 1000000 in
theorem T_Mo_writesWord_0 {d : Nat} {kd : ZK} {m : ZM} {q : ZM → Prop} {v0 v1 : Int} (h : (Ev (d + 1) M_Mo_writesWord 0 0 2 [(2, v0), (3, v1), (0, 0)] [] kd m (zqV kd q))) : Ev (d + 1) M_Mo_writesWord 0 0 0 [(2, v0), (3, v1), zJ] [] kd m (zqV kd q) := by
  refine EvX.blk (pc' := 2) [(.iconst 0, 0, 0), (.istore_n 2, 0, 0)] (by decide +kernel) trivial ?_
  show Ev (d + 1) M_Mo_writesWord 0 0 2 [(2, v0), (3, v1), (0, 0)] [] kd m (zqV kd q)
  exact h
theorem S_Mo_writesWord {d : Nat} {kd : ZK} {m : ZM} {q : ZM → Prop} {v0 v1 : Int} (h : (Ev (d + 1) M_Mo_writesWord 0 0 2 [(2, v0), (3, v1), (0, 0)] [] kd m (zqV kd q))) : CtV (d + 1) M_Mo_writesWord [(2, v0), (3, v1)] kd m q :=
  Ct.start k_Mo_writesWord (Nat.le_of_ble_eq_true rfl) ⟨0, Or.inl ⟨rfl, rfl⟩⟩ (T_Mo_writesWord_0 h)
set_option maxRecDepth 20000 in
set_option maxHeartbeats 1000000 in
theorem T_Mo_writesWord_2 {d : Nat} {kd : ZK} {m : ZM} {q : ZM → Prop} {v0 v1 v2 : Int} (h : ((v1).toNat < zsN ∧ ∃ q1, CtI d M_Str_length [(3, v1)] kd m q1 ∧ ∀ x2 m3, q1 x2 m3 → ((x2 ≤ v2 → q m3) ∧ (¬ x2 ≤ v2 → ((v1).toNat < zsN ∧ ∃ q4, CtI d M_Str_charAt [(3, v1), (0, v2)] kd m3 q4 ∧ ∀ x5 m6, q4 x5 m6 → (zobj kd v0 8 ∧ ∃ q7, CtV d M_Mo_writes [(2, v0), (0, x5)] kd m6 q7 ∧ ∀ m9, q7 m9 → (Ev (d + 1) M_Mo_writesWord 0 0 2 [(2, v0), (3, v1), (0, iw (v2 + 1))] [] kd m9 (zqV kd q)))))))) : Ev (d + 1) M_Mo_writesWord 0 0 2 [(2, v0), (3, v1), (0, v2)] [] kd m (zqV kd q) := by
  refine EvX.blk (pc' := 4) [(.iload_n 2, 0, 0), (.aload_n 1, 0, 0)] (by decide +kernel) trivial ?_
  show Ev (d + 1) M_Mo_writesWord 0 0 4 [(2, v0), (3, v1), (0, v2)] [(3, v1), (0, v2)] kd m (zqV kd q)
  obtain ⟨oi, h⟩ := h
  obtain ⟨q1, hq, h⟩ := h
  refine EvX.callT (mc := 0) (ms := 0) (as := []) (st := [(0, v2)]) (by decide +kernel) l_Mo_97 k_Str_length v_Str_length a_Str_length (by decide) (Nat.le_of_ble_eq_true rfl) rfl oi hq (fun r kd1 m3 hr => ?_)
  obtain ⟨x2, rfl, hk, hr⟩ := hr
  subst kd1
  have h := h x2 m3 hr
  show Ev (d + 1) M_Mo_writesWord 0 0 7 [(2, v0), (3, v1), (0, v2)] [(0, x2), (0, v2)] kd m3 (zqV kd q)
  refine EvX.icmp_ge (off := 18) (tgt := 25) (by decide +kernel) (by decide) (fun hc => ?_) (fun hc => ?_)
  · have h := h.1 hc
    exact EvX.ret (r := zJ) (by decide +kernel) rfl ⟨rfl, rfl, h⟩
  · have h := h.2 hc
    refine EvX.blk (pc' := 13) [(.aload_n 0, 0, 0), (.aload_n 1, 0, 0), (.iload_n 2, 0, 0)] (by decide +kernel) trivial ?_
    show Ev (d + 1) M_Mo_writesWord 0 0 13 [(2, v0), (3, v1), (0, v2)] [(0, v2), (3, v1), (2, v0)] kd m3 (zqV kd q)
    obtain ⟨oi, h⟩ := h
    obtain ⟨q4, hq, h⟩ := h
    refine EvX.callT (mc := 0) (ms := 0) (as := [(0, v2)]) (st := [(2, v0)]) (by decide +kernel) l_Mo_102 k_Str_charAt v_Str_charAt a_Str_charAt (by decide) (Nat.le_of_ble_eq_true rfl) rfl oi hq (fun r kd1 m6 hr => ?_)
    obtain ⟨x5, rfl, hk, hr⟩ := hr
    subst kd1
    have h := h x5 m6 hr
    show Ev (d + 1) M_Mo_writesWord 0 0 16 [(2, v0), (3, v1), (0, v2)] [(0, x5), (2, v0)] kd m6 (zqV kd q)
    obtain ⟨ov, h⟩ := h
    obtain ⟨q7, hq, h⟩ := h
    refine EvX.callV (c := 8) (mc := 0) (ms := 0) (as := [(0, x5)]) (st := []) (by decide +kernel) l_Mo_391 k_Mo_writes v_Mo_writes a_Mo_writes (by decide) (Nat.le_of_ble_eq_true rfl) rfl ov hq (fun r kd1 m9 hr => ?_)
    obtain ⟨rfl, hk, hr⟩ := hr
    subst kd1
    have h := h m9 hr
    show Ev (d + 1) M_Mo_writesWord 0 0 19 [(2, v0), (3, v1), (0, v2)] [] kd m9 (zqV kd q)
    refine EvX.blk (pc' := 22) [(.iinc 2 1, 0, 0)] (by decide +kernel) trivial ?_
    show Ev (d + 1) M_Mo_writesWord 0 0 22 [(2, v0), (3, v1), (0, iw (v2 + 1))] [] kd m9 (zqV kd q)
    refine EvX.goto (off := (-20)) (tgt := 2) (by decide +kernel) (by decide) ?_
    exact h
set_option maxRecDepth 20000 in
set_option maxHeartbeats 1000000 in
theorem T_Mo_writesNumber_0 {d : Nat} {kd : ZK} {m : ZM} {q : ZM → Prop} {v0 v1 : Int} (h : (zobj kd v0 8 ∧ ∃ q1, CtV d M_Mo_writes [(2, v0), (0, 32)] kd m q1 ∧ ∀ m3, q1 m3 → ((v1 ≤ 9 → (zobj kd v0 8 ∧ ∃ q4, CtV d M_Mo_writes [(2, v0), (0, iw (48 + (Int.tmod v1 10)))] kd m3 q4 ∧ ∀ m6, q4 m6 → q m6)) ∧ (¬ v1 ≤ 9 → (zobj kd v0 8 ∧ ∃ q7, CtV d M_Mo_writes [(2, v0), (0, iw (48 + (iw (Int.tdiv v1 10))))] kd m3 q7 ∧ ∀ m9, q7 m9 → (zobj kd v0 8 ∧ ∃ q10, CtV d M_Mo_writes [(2, v0), (0, iw (48 + (Int.tmod v1 10)))] kd m9 q10 ∧ ∀ m12, q10 m12 → q m12)))))) : Ev (d + 1) M_Mo_writesNumber 0 0 0 [(2, v0), (0, v1)] [] kd m (zqV kd q) := by
  refine EvX.blk (pc' := 3) [(.aload_n 0, 0, 0), (.bipush 32, 0, 0)] (by decide +kernel) trivial ?_
  show Ev (d + 1) M_Mo_writesNumber 0 0 3 [(2, v0), (0, v1)] [(0, 32), (2, v0)] kd m (zqV kd q)
  obtain ⟨ov, h⟩ := h
  obtain ⟨q1, hq, h⟩ := h
  refine EvX.callV (c := 8) (mc := 0) (ms := 0) (as := [(0, 32)]) (st := []) (by decide +kernel) l_Mo_391 k_Mo_writes v_Mo_writes a_Mo_writes (by decide) (Nat.le_of_ble_eq_true rfl) rfl ov hq (fun r kd1 m3 hr => ?_)
  obtain ⟨rfl, hk, hr⟩ := hr
  subst kd1
  have h := h m3 hr
  show Ev (d + 1) M_Mo_writesNumber 0 0 6 [(2, v0), (0, v1)] [] kd m3 (zqV kd q)
  refine EvX.blk (pc' := 9) [(.iload_n 1, 0, 0), (.bipush 9, 0, 0)] (by decide +kernel) trivial ?_
  show Ev (d + 1) M_Mo_writesNumber 0 0 9 [(2, v0), (0, v1)] [(0, 9), (0, v1)] kd m3 (zqV kd q)
  refine EvX.icmp_le (off := 14) (tgt := 23) (by decide +kernel) (by decide) (fun hc => ?_) (fun hc => ?_)
  · have h := h.1 hc
    refine EvX.blk (pc' := 31) [(.aload_n 0, 0, 0), (.bipush 48, 0, 0), (.iload_n 1, 0, 0), (.bipush 10, 0, 0), (.irem, 0, 0), (.iadd, 0, 0)] (by decide +kernel) trivial ⟨by decide, ?_⟩
    show Ev (d + 1) M_Mo_writesNumber 0 0 31 [(2, v0), (0, v1)] [(0, iw (48 + (Int.tmod v1 10))), (2, v0)] kd m3 (zqV kd q)
    obtain ⟨ov, h⟩ := h
    obtain ⟨q4, hq, h⟩ := h
    refine EvX.callV (c := 8) (mc := 0) (ms := 0) (as := [(0, iw (48 + (Int.tmod v1 10)))]) (st := []) (by decide +kernel) l_Mo_391 k_Mo_writes v_Mo_writes a_Mo_writes (by decide) (Nat.le_of_ble_eq_true rfl) rfl ov hq (fun r kd1 m6 hr => ?_)
    obtain ⟨rfl, hk, hr⟩ := hr
    subst kd1
    have h := h m6 hr
    show Ev (d + 1) M_Mo_writesNumber 0 0 34 [(2, v0), (0, v1)] [] kd m6 (zqV kd q)
    exact EvX.ret (r := zJ) (by decide +kernel) rfl ⟨rfl, rfl, h⟩
  · have h := h.2 hc
    refine EvX.blk (pc' := 20) [(.aload_n 0, 0, 0), (.bipush 48, 0, 0), (.iload_n 1, 0, 0), (.bipush 10, 0, 0), (.idiv, 0, 0), (.iadd, 0, 0)] (by decide +kernel) trivial ⟨by decide, ?_⟩
    show Ev (d + 1) M_Mo_writesNumber 0 0 20 [(2, v0), (0, v1)] [(0, iw (48 + (iw (Int.tdiv v1 10)))), (2, v0)] kd m3 (zqV kd q)
    obtain ⟨ov, h⟩ := h
    obtain ⟨q7, hq, h⟩ := h
    refine EvX.callV (c := 8) (mc := 0) (ms := 0) (as := [(0, iw (48 + (iw (Int.tdiv v1 10))))]) (st := []) (by decide +kernel) l_Mo_391 k_Mo_writes v_Mo_writes a_Mo_writes (by decide) (Nat.le_of_ble_eq_true rfl) rfl ov hq (fun r kd1 m9 hr => ?_)
    obtain ⟨rfl, hk, hr⟩ := hr
    subst kd1
    have h := h m9 hr
    show Ev (d + 1) M_Mo_writesNumber 0 0 23 [(2, v0), (0, v1)] [] kd m9 (zqV kd q)
    refine EvX.blk (pc' := 31) [(.aload_n 0, 0, 0), (.bipush 48, 0, 0), (.iload_n 1, 0, 0), (.bipush 10, 0, 0), (.irem, 0, 0), (.iadd, 0, 0)] (by decide +kernel) trivial ⟨by decide, ?_⟩
    show Ev (d + 1) M_Mo_writesNumber 0 0 31 [(2, v0), (0, v1)] [(0, iw (48 + (Int.tmod v1 10))), (2, v0)] kd m9 (zqV kd q)
    obtain ⟨ov, h⟩ := h
    obtain ⟨q10, hq, h⟩ := h
    refine EvX.callV (c := 8) (mc := 0) (ms := 0) (as := [(0, iw (48 + (Int.tmod v1 10)))]) (st := []) (by decide +kernel) l_Mo_391 k_Mo_writes v_Mo_writes a_Mo_writes (by decide) (Nat.le_of_ble_eq_true rfl) rfl ov hq (fun r kd1 m12 hr => ?_)
    obtain ⟨rfl, hk, hr⟩ := hr
    subst kd1
    have h := h m12 hr
    show Ev (d + 1) M_Mo_writesNumber 0 0 34 [(2, v0), (0, v1)] [] kd m12 (zqV kd q)
    exact EvX.ret (r := zJ) (by decide +kernel) rfl ⟨rfl, rfl, h⟩
theorem S_Mo_writesNumber {d : Nat} {kd : ZK} {m : ZM} {q : ZM → Prop} {v0 v1 : Int} (h : (zobj kd v0 8 ∧ ∃ q1, CtV d M_Mo_writes [(2, v0), (0, 32)] kd m q1 ∧ ∀ m3, q1 m3 → ((v1 ≤ 9 → (zobj kd v0 8 ∧ ∃ q4, CtV d M_Mo_writes [(2, v0), (0, iw (48 + (Int.tmod v1 10)))] kd m3 q4 ∧ ∀ m6, q4 m6 → q m6)) ∧ (¬ v1 ≤ 9 → (zobj kd v0 8 ∧ ∃ q7, CtV d M_Mo_writes [(2, v0), (0, iw (48 + (iw (Int.tdiv v1 10))))] kd m3 q7 ∧ ∀ m9, q7 m9 → (zobj kd v0 8 ∧ ∃ q10, CtV d M_Mo_writes [(2, v0), (0, iw (48 + (Int.tmod v1 10)))] kd m9 q10 ∧ ∀ m12, q10 m12 → q m12)))))) : CtV (d + 1) M_Mo_writesNumber [(2, v0), (0, v1)] kd m q :=
  Ct.start k_Mo_writesNumber (Nat.le_of_ble_eq_true rfl) ⟨0, Or.inl ⟨rfl, rfl⟩⟩ (T_Mo_writesNumber_0 h)
