/-! CONSTRUCTORS, third: the past -/
theorem EvX.newc {X : Option (Nat × (Nat → Int))} {d : Nat} {M : ZMeth} {mc ms pc : Nat} {ls st : List ZV} {m : ZM} {Q : ZQ} {n idx c N : Nat} (hd_q : decode M.2.1 pc = .ok (.new idx, 3)) (hn : ZNew M idx c) (hN_q : (zTags.getD c []).length = N) (h95 : n < 95) (hk : kdF[n]? = some (c + 10, N)) (kk : EvX X d M mc ms (pc + 3) ls ((2, (n : Int)) :: st) (kT (n + 1)) (zrow m n (zdef c)) Q) : EvX X d M (mc + 1) (ms + N) pc ls st (kT n) m Q := by
  subst hN_q
  refine EvX.new hd_q hn (by rw [kT_len (by omega)]; omega) ?_
  rw [kT_len (by omega), kS hk]
  exact kk
theorem EvX.newGk {X : Option (Nat × (Nat → Int))} {d : Nat} {M : ZMeth} {mc ms pc : Nat} {ls st : List ZV} {m : ZM} {Q : ZQ} {n i1_q i2_q : Nat} (h1 : decode M.2.1 pc = .ok (.new i1_q, 3)) (h2 : decode M.2.1 (pc + 3) = .ok (.dup, 1)) (h3 : decode M.2.1 (pc + 3 + 1) = .ok (.invokespecial i2_q, 3)) (hn : ZNew M i1_q 1) (hlk : ZLk M.1.cls i2_q M_Game_init) (hs : (st.map zcat).sum ≤ 7) (h95 : n < 91) (hk : kdF[n]? = some (11, 7) ∧ kdF[n + 1]? = some (0, 25) ∧ kdF[n + 2]? = some (0, 400) ∧ kdF[n + 3]? = some (0, 400))
    (kk : ∀ m' : ZM, (∀ c, c < (n : Int) → m' c = m c) → NG m' n → EvX X (d + 2) M mc ms (pc + 3 + 1 + 3) ls ((2, (n : Int)) :: st) (kT (n + 4)) m' Q) : EvX X (d + 2) M (mc + 3 + 1) (ms + 825 + 7) pc ls st (kT n) m Q := by
  refine EvX.newGame h1 h2 h3 hn hlk hs (by rw [kT_len (by omega)]; omega) (fun m' f q => ?_)
  rw [kT_len (by omega)] at f q ⊢
  rw [kG hk]
  exact kk m' f q
theorem NG.frame {m m' : ZM} {n : Int} (h : NG m n) (e : m' n = m n) : NG m' n := by unfold NG; rw [e]; exact h
theorem gsF (i : Int) (h0 : 0 ≤ i) (h1 : i < 10) : zobj kdF (5 + 4 * i) 1 ∧ zarr kdF (5 + 4 * i + 1) 0 25 ∧ zarr kdF (5 + 4 * i + 2) 0 400 ∧ zarr kdF (5 + 4 * i + 3) 0 400 := by
  rcases (show i = 0 ∨ i = 1 ∨ i = 2 ∨ i = 3 ∨ i = 4 ∨ i = 5 ∨ i = 6 ∨ i = 7 ∨ i = 8 ∨ i = 9 by omega) with q | q | q | q | q | q | q | q | q | q <;> subst q <;> exact ⟨⟨by decide, rfl⟩, ⟨by decide, rfl⟩, ⟨by decide, rfl⟩, ⟨by decide, rfl⟩⟩
/-- the first i games of the past stand -/
def FP (i : Int) (m : ZM) : Prop := ∀ j, 0 ≤ j → j < i → m 4 j = 5 + 4 * j ∧ NG m (5 + 4 * j)
theorem FP_s {i : Int} {m m' : ZM} (h : FP i m) (f : ∀ c, c < 5 + 4 * i → m' c = m c) (q : NG m' (5 + 4 * i)) (i0_q : 0 ≤ i) : FP (i + 1) (zup m' 4 i (5 + 4 * i)) := fun j j0 j1 => by
  rcases (show j = i ∨ j < i by omega) with e | e
  · subst e
    exact ⟨zup_self, q.frame (zup_off (by omega))⟩
  · have z := h j j0 e
    exact ⟨by rw [zup_nj (by omega), f 4 (by omega)]; exact z.1, z.2.frame (by rw [zup_off (by omega), f _ (by omega)])⟩
theorem c_Past_init {d : Nat} {m : ZM} : Ct (d + 2) M_Past_init 41 8330 [(2, 3)] (kT 4) m (fun r kd' m' => r = zJ ∧ kd' = kT 45 ∧ PC kdF m' (fun _ _ => 0) 0 ∧ ∀ c, c < 3 → m' c = m c) := by
  have ho3 : zobj kdF 3 2 := ⟨by decide, rfl⟩
  have ha4 : zarr kdF 4 3 10 := ⟨by decide, rfl⟩
  refine Ct.start k_Past_init (Nat.le_of_ble_eq_true rfl) ⟨0, Or.inl ⟨rfl, rfl⟩⟩ ?_
  show EvX none (d + 2) M_Past_init 41 8330 0 [(2, 3)] [] (kT 4) m _
  refine EvX.blk (pc' := 1) [(.aload_n 0, 0, 0)] (by decide +kernel) trivial ?_
  show EvX none (d + 2) M_Past_init 41 8330 1 [(2, 3)] [(2, 3)] (kT 4) m _
  refine EvX.objInit (by decide +kernel) y_Past_1 y_obj1 y_obj2 (by decide) (Nat.le_of_ble_eq_true rfl) ?_
  show EvX none (d + 2) M_Past_init 41 8330 4 [(2, 3)] [] (kT 4) m _
  refine EvX.blk (pc' := 7) [(.aload_n 0, 0, 0), (.bipush 10, 0, 0)] (by decide +kernel) trivial ?_
  show EvX none (d + 2) M_Past_init 41 8330 7 [(2, 3)] [(0, 10), (2, 3)] (kT 4) m _
  refine EvX.newq (mc := 40) (ms := 8320) (N := 10) (by decide +kernel) aC_Game.2 (by decide) (by rw [kT_len (by decide)]; decide) ?_
  rw [kT_len (by decide), kS (n := 4) rfl]
  show EvX none (d + 2) M_Past_init 40 8320 10 [(2, 3)] [(2, 4), (2, 3)] (kT 5) (zrow m 4 (fun _ => -1)) _
  have F0_q : FP 0 (zrow m 4 (fun _ => -1)) := fun j j0 j1 => absurd j1 (by omega)
  have E0_q : ∀ c, c < 3 → (zrow m 4 (fun _ => -1)) c = m c := fun c hc_q => funext fun j => zrow_ne (by omega)
  generalize zrow m 4 (fun _ => -1) = M0 at F0_q E0_q ⊢
  refine EvX.blk (pc' := 12) [(.dup, 0, 0), (.iconst 0, 0, 0)] (by decide +kernel) trivial ?_
  show EvX none (d + 2) M_Past_init 40 8320 12 [(2, 3)] [(0, 0), (2, 4), (2, 4), (2, 3)] (kT 5) M0 _
  refine EvX.newGk (mc := 36) (ms := 7488) (n := 5) (by decide +kernel) (by decide +kernel) (by decide +kernel) (nw_Past_7 rfl) l_Past_9 (Nat.le_of_ble_eq_true rfl) (by decide) ⟨rfl, rfl, rfl, rfl⟩ (fun N0 f0_q q0 => ?_)
  show EvX none (d + 2) M_Past_init 36 7488 19 [(2, 3)] [(2, 5), (0, 0), (2, 4), (2, 4), (2, 3)] (kT 9) N0 _
  refine EvX.blk (pc' := 20) [(.aastore, 0, 0)] (by decide +kernel) trivial ⟨⟨10, kTa ha4 (by decide), by decide, by decide⟩, kTo (gsF 0 (by decide) (by decide)).1 (by decide), ?_⟩
  show EvX none (d + 2) M_Past_init 36 7488 20 [(2, 3)] [(2, 4), (2, 3)] (kT 9) (zup N0 4 0 5) _
  have F1_q : FP 1 (zup N0 4 0 5) := FP_s (i := 0) F0_q f0_q q0 (by decide)
  have E1_q : ∀ c, c < 3 → (zup N0 4 0 5) c = m c := fun c hc_q => by rw [zup_off (by omega), f0_q c (by omega), E0_q c hc_q]
  generalize zup N0 4 0 5 = M1_q at F1_q E1_q ⊢
  refine EvX.blk (pc' := 22) [(.dup, 0, 0), (.iconst 1, 0, 0)] (by decide +kernel) trivial ?_
  show EvX none (d + 2) M_Past_init 36 7488 22 [(2, 3)] [(0, 1), (2, 4), (2, 4), (2, 3)] (kT 9) M1_q _
  refine EvX.newGk (mc := 32) (ms := 6656) (n := 9) (by decide +kernel) (by decide +kernel) (by decide +kernel) (nw_Past_7 rfl) l_Past_9 (Nat.le_of_ble_eq_true rfl) (by decide) ⟨rfl, rfl, rfl, rfl⟩ (fun N1 f1_q q1_q => ?_)
  show EvX none (d + 2) M_Past_init 32 6656 29 [(2, 3)] [(2, 9), (0, 1), (2, 4), (2, 4), (2, 3)] (kT 13) N1 _
  refine EvX.blk (pc' := 30) [(.aastore, 0, 0)] (by decide +kernel) trivial ⟨⟨10, kTa ha4 (by decide), by decide, by decide⟩, kTo (gsF 1 (by decide) (by decide)).1 (by decide), ?_⟩
  show EvX none (d + 2) M_Past_init 32 6656 30 [(2, 3)] [(2, 4), (2, 3)] (kT 13) (zup N1 4 1 9) _
  have F2 : FP 2 (zup N1 4 1 9) := FP_s (i := 1) F1_q f1_q q1_q (by decide)
  have E2 : ∀ c, c < 3 → (zup N1 4 1 9) c = m c := fun c hc_q => by rw [zup_off (by omega), f1_q c (by omega), E1_q c hc_q]
  generalize zup N1 4 1 9 = M2_q at F2 E2 ⊢
  refine EvX.blk (pc' := 32) [(.dup, 0, 0), (.iconst 2, 0, 0)] (by decide +kernel) trivial ?_
  show EvX none (d + 2) M_Past_init 32 6656 32 [(2, 3)] [(0, 2), (2, 4), (2, 4), (2, 3)] (kT 13) M2_q _
  refine EvX.newGk (mc := 28) (ms := 5824) (n := 13) (by decide +kernel) (by decide +kernel) (by decide +kernel) (nw_Past_7 rfl) l_Past_9 (Nat.le_of_ble_eq_true rfl) (by decide) ⟨rfl, rfl, rfl, rfl⟩ (fun N2 f2_q q2_q => ?_)
  show EvX none (d + 2) M_Past_init 28 5824 39 [(2, 3)] [(2, 13), (0, 2), (2, 4), (2, 4), (2, 3)] (kT 17) N2 _
  refine EvX.blk (pc' := 40) [(.aastore, 0, 0)] (by decide +kernel) trivial ⟨⟨10, kTa ha4 (by decide), by decide, by decide⟩, kTo (gsF 2 (by decide) (by decide)).1 (by decide), ?_⟩
  show EvX none (d + 2) M_Past_init 28 5824 40 [(2, 3)] [(2, 4), (2, 3)] (kT 17) (zup N2 4 2 13) _
  have F3 : FP 3 (zup N2 4 2 13) := FP_s (i := 2) F2 f2_q q2_q (by decide)
  have E3 : ∀ c, c < 3 → (zup N2 4 2 13) c = m c := fun c hc_q => by rw [zup_off (by omega), f2_q c (by omega), E2 c hc_q]
  generalize zup N2 4 2 13 = M3_q at F3 E3 ⊢
  refine EvX.blk (pc' := 42) [(.dup, 0, 0), (.iconst 3, 0, 0)] (by decide +kernel) trivial ?_
  show EvX none (d + 2) M_Past_init 28 5824 42 [(2, 3)] [(0, 3), (2, 4), (2, 4), (2, 3)] (kT 17) M3_q _
  refine EvX.newGk (mc := 24) (ms := 4992) (n := 17) (by decide +kernel) (by decide +kernel) (by decide +kernel) (nw_Past_7 rfl) l_Past_9 (Nat.le_of_ble_eq_true rfl) (by decide) ⟨rfl, rfl, rfl, rfl⟩ (fun N3 f3_q q3_q => ?_)
  show EvX none (d + 2) M_Past_init 24 4992 49 [(2, 3)] [(2, 17), (0, 3), (2, 4), (2, 4), (2, 3)] (kT 21) N3 _
  refine EvX.blk (pc' := 50) [(.aastore, 0, 0)] (by decide +kernel) trivial ⟨⟨10, kTa ha4 (by decide), by decide, by decide⟩, kTo (gsF 3 (by decide) (by decide)).1 (by decide), ?_⟩
  show EvX none (d + 2) M_Past_init 24 4992 50 [(2, 3)] [(2, 4), (2, 3)] (kT 21) (zup N3 4 3 17) _
  have F4 : FP 4 (zup N3 4 3 17) := FP_s (i := 3) F3 f3_q q3_q (by decide)
  have E4 : ∀ c, c < 3 → (zup N3 4 3 17) c = m c := fun c hc_q => by rw [zup_off (by omega), f3_q c (by omega), E3 c hc_q]
  generalize zup N3 4 3 17 = M4_q at F4 E4 ⊢
  refine EvX.blk (pc' := 52) [(.dup, 0, 0), (.iconst 4, 0, 0)] (by decide +kernel) trivial ?_
  show EvX none (d + 2) M_Past_init 24 4992 52 [(2, 3)] [(0, 4), (2, 4), (2, 4), (2, 3)] (kT 21) M4_q _
  refine EvX.newGk (mc := 20) (ms := 4160) (n := 21) (by decide +kernel) (by decide +kernel) (by decide +kernel) (nw_Past_7 rfl) l_Past_9 (Nat.le_of_ble_eq_true rfl) (by decide) ⟨rfl, rfl, rfl, rfl⟩ (fun N4_q f4_q q4_q => ?_)
  show EvX none (d + 2) M_Past_init 20 4160 59 [(2, 3)] [(2, 21), (0, 4), (2, 4), (2, 4), (2, 3)] (kT 25) N4_q _
  refine EvX.blk (pc' := 60) [(.aastore, 0, 0)] (by decide +kernel) trivial ⟨⟨10, kTa ha4 (by decide), by decide, by decide⟩, kTo (gsF 4 (by decide) (by decide)).1 (by decide), ?_⟩
  show EvX none (d + 2) M_Past_init 20 4160 60 [(2, 3)] [(2, 4), (2, 3)] (kT 25) (zup N4_q 4 4 21) _
  have F5 : FP 5 (zup N4_q 4 4 21) := FP_s (i := 4) F4 f4_q q4_q (by decide)
  have E5 : ∀ c, c < 3 → (zup N4_q 4 4 21) c = m c := fun c hc_q => by rw [zup_off (by omega), f4_q c (by omega), E4 c hc_q]
  generalize zup N4_q 4 4 21 = M5_q at F5 E5 ⊢
  refine EvX.blk (pc' := 62) [(.dup, 0, 0), (.iconst 5, 0, 0)] (by decide +kernel) trivial ?_
  show EvX none (d + 2) M_Past_init 20 4160 62 [(2, 3)] [(0, 5), (2, 4), (2, 4), (2, 3)] (kT 25) M5_q _
  refine EvX.newGk (mc := 16) (ms := 3328) (n := 25) (by decide +kernel) (by decide +kernel) (by decide +kernel) (nw_Past_7 rfl) l_Past_9 (Nat.le_of_ble_eq_true rfl) (by decide) ⟨rfl, rfl, rfl, rfl⟩ (fun N5 f5_q q5_q => ?_)
  show EvX none (d + 2) M_Past_init 16 3328 69 [(2, 3)] [(2, 25), (0, 5), (2, 4), (2, 4), (2, 3)] (kT 29) N5 _
  refine EvX.blk (pc' := 70) [(.aastore, 0, 0)] (by decide +kernel) trivial ⟨⟨10, kTa ha4 (by decide), by decide, by decide⟩, kTo (gsF 5 (by decide) (by decide)).1 (by decide), ?_⟩
  show EvX none (d + 2) M_Past_init 16 3328 70 [(2, 3)] [(2, 4), (2, 3)] (kT 29) (zup N5 4 5 25) _
  have F6 : FP 6 (zup N5 4 5 25) := FP_s (i := 5) F5 f5_q q5_q (by decide)
  have E6 : ∀ c, c < 3 → (zup N5 4 5 25) c = m c := fun c hc_q => by rw [zup_off (by omega), f5_q c (by omega), E5 c hc_q]
  generalize zup N5 4 5 25 = M6_q at F6 E6 ⊢
  refine EvX.blk (pc' := 73) [(.dup, 0, 0), (.bipush 6, 0, 0)] (by decide +kernel) trivial ?_
  show EvX none (d + 2) M_Past_init 16 3328 73 [(2, 3)] [(0, 6), (2, 4), (2, 4), (2, 3)] (kT 29) M6_q _
  refine EvX.newGk (mc := 12) (ms := 2496) (n := 29) (by decide +kernel) (by decide +kernel) (by decide +kernel) (nw_Past_7 rfl) l_Past_9 (Nat.le_of_ble_eq_true rfl) (by decide) ⟨rfl, rfl, rfl, rfl⟩ (fun N6 f6_q q6_q => ?_)
  show EvX none (d + 2) M_Past_init 12 2496 80 [(2, 3)] [(2, 29), (0, 6), (2, 4), (2, 4), (2, 3)] (kT 33) N6 _
  refine EvX.blk (pc' := 81) [(.aastore, 0, 0)] (by decide +kernel) trivial ⟨⟨10, kTa ha4 (by decide), by decide, by decide⟩, kTo (gsF 6 (by decide) (by decide)).1 (by decide), ?_⟩
  show EvX none (d + 2) M_Past_init 12 2496 81 [(2, 3)] [(2, 4), (2, 3)] (kT 33) (zup N6 4 6 29) _
  have F7 : FP 7 (zup N6 4 6 29) := FP_s (i := 6) F6 f6_q q6_q (by decide)
  have E7 : ∀ c, c < 3 → (zup N6 4 6 29) c = m c := fun c hc_q => by rw [zup_off (by omega), f6_q c (by omega), E6 c hc_q]
  generalize zup N6 4 6 29 = M7_q at F7 E7 ⊢
  refine EvX.blk (pc' := 84) [(.dup, 0, 0), (.bipush 7, 0, 0)] (by decide +kernel) trivial ?_
  show EvX none (d + 2) M_Past_init 12 2496 84 [(2, 3)] [(0, 7), (2, 4), (2, 4), (2, 3)] (kT 33) M7_q _
  refine EvX.newGk (mc := 8) (ms := 1664) (n := 33) (by decide +kernel) (by decide +kernel) (by decide +kernel) (nw_Past_7 rfl) l_Past_9 (Nat.le_of_ble_eq_true rfl) (by decide) ⟨rfl, rfl, rfl, rfl⟩ (fun N7 f7_q q7_q => ?_)
  show EvX none (d + 2) M_Past_init 8 1664 91 [(2, 3)] [(2, 33), (0, 7), (2, 4), (2, 4), (2, 3)] (kT 37) N7 _
  refine EvX.blk (pc' := 92) [(.aastore, 0, 0)] (by decide +kernel) trivial ⟨⟨10, kTa ha4 (by decide), by decide, by decide⟩, kTo (gsF 7 (by decide) (by decide)).1 (by decide), ?_⟩
  show EvX none (d + 2) M_Past_init 8 1664 92 [(2, 3)] [(2, 4), (2, 3)] (kT 37) (zup N7 4 7 33) _
  have F8 : FP 8 (zup N7 4 7 33) := FP_s (i := 7) F7 f7_q q7_q (by decide)
  have E8 : ∀ c, c < 3 → (zup N7 4 7 33) c = m c := fun c hc_q => by rw [zup_off (by omega), f7_q c (by omega), E7 c hc_q]
  generalize zup N7 4 7 33 = M8_q at F8 E8 ⊢
  refine EvX.blk (pc' := 95) [(.dup, 0, 0), (.bipush 8, 0, 0)] (by decide +kernel) trivial ?_
  show EvX none (d + 2) M_Past_init 8 1664 95 [(2, 3)] [(0, 8), (2, 4), (2, 4), (2, 3)] (kT 37) M8_q _
  refine EvX.newGk (mc := 4) (ms := 832) (n := 37) (by decide +kernel) (by decide +kernel) (by decide +kernel) (nw_Past_7 rfl) l_Past_9 (Nat.le_of_ble_eq_true rfl) (by decide) ⟨rfl, rfl, rfl, rfl⟩ (fun N8 f8_q q8_q => ?_)
  show EvX none (d + 2) M_Past_init 4 832 102 [(2, 3)] [(2, 37), (0, 8), (2, 4), (2, 4), (2, 3)] (kT 41) N8 _
  refine EvX.blk (pc' := 103) [(.aastore, 0, 0)] (by decide +kernel) trivial ⟨⟨10, kTa ha4 (by decide), by decide, by decide⟩, kTo (gsF 8 (by decide) (by decide)).1 (by decide), ?_⟩
  show EvX none (d + 2) M_Past_init 4 832 103 [(2, 3)] [(2, 4), (2, 3)] (kT 41) (zup N8 4 8 37) _
  have F9 : FP 9 (zup N8 4 8 37) := FP_s (i := 8) F8 f8_q q8_q (by decide)
  have E9 : ∀ c, c < 3 → (zup N8 4 8 37) c = m c := fun c hc_q => by rw [zup_off (by omega), f8_q c (by omega), E8 c hc_q]
  generalize zup N8 4 8 37 = M9_q at F9 E9 ⊢
  refine EvX.blk (pc' := 106) [(.dup, 0, 0), (.bipush 9, 0, 0)] (by decide +kernel) trivial ?_
  show EvX none (d + 2) M_Past_init 4 832 106 [(2, 3)] [(0, 9), (2, 4), (2, 4), (2, 3)] (kT 41) M9_q _
  refine EvX.newGk (mc := 0) (ms := 0) (n := 41) (by decide +kernel) (by decide +kernel) (by decide +kernel) (nw_Past_7 rfl) l_Past_9 (Nat.le_of_ble_eq_true rfl) (by decide) ⟨rfl, rfl, rfl, rfl⟩ (fun N9 f9_q q9_q => ?_)
  show EvX none (d + 2) M_Past_init 0 0 113 [(2, 3)] [(2, 41), (0, 9), (2, 4), (2, 4), (2, 3)] (kT 45) N9 _
  refine EvX.blk (pc' := 114) [(.aastore, 0, 0)] (by decide +kernel) trivial ⟨⟨10, kTa ha4 (by decide), by decide, by decide⟩, kTo (gsF 9 (by decide) (by decide)).1 (by decide), ?_⟩
  show EvX none (d + 2) M_Past_init 0 0 114 [(2, 3)] [(2, 4), (2, 3)] (kT 45) (zup N9 4 9 41) _
  have F10 : FP 10 (zup N9 4 9 41) := FP_s (i := 9) F9 f9_q q9_q (by decide)
  have E10 : ∀ c, c < 3 → (zup N9 4 9 41) c = m c := fun c hc_q => by rw [zup_off (by omega), f9_q c (by omega), E9 c hc_q]
  generalize zup N9 4 9 41 = M10 at F10 E10 ⊢
  refine EvX.blk (pc' := 127) [(.putfield 10, 2, 0), (.aload_n 0, 0, 0), (.iconst 0, 0, 0), (.putfield 16, 2, 1), (.aload_n 0, 0, 0), (.iconst 0, 0, 0), (.putfield 20, 2, 2)] (by decide +kernel) ⟨⟨g_Past_10, p_Past_10⟩, ⟨g_Past_16, p_Past_16⟩, ⟨g_Past_20, p_Past_20⟩, trivial⟩ ⟨rfl, kTo ho3 (by decide), rfl, kTo ho3 (by decide), rfl, kTo ho3 (by decide), ?_⟩
  show EvX none (d + 2) M_Past_init 0 0 127 [(2, 3)] [] (kT 45) (zup (zup (zup M10 3 0 4) 3 1 0) 3 2 0) _
  refine EvX.ret (r := zJ) (by decide +kernel) rfl ⟨rfl, rfl, ⟨⟨ho3, ?_, ha4⟩, fun i i0_q i1_q => ?_, ⟨?_, ?_⟩, ⟨?_, by decide, by decide⟩, fun i i0_q i1_q => absurd i1_q (by omega)⟩, fun c hc_q => by rw [zup_off (by omega), zup_off (by omega), zup_off (by omega), E10 c hc_q]⟩
  · rw [zup_nj (by decide), zup_nj (by decide), zup_self]
  · have z := F10 i i0_q i1_q
    have g := gsF i i0_q i1_q
    have e : ∀ c : Int, c ≠ 3 → (zup (zup (zup M10 3 0 4) 3 1 0) 3 2 0) c = M10 c := fun c hc_q => by rw [zup_off hc_q, zup_off hc_q, zup_off hc_q]
    have w := z.2.frame (e _ (by omega))
    exact ⟨by rw [e 4 (by decide)]; exact z.1, g.1, w.2, g.2⟩
  · rw [zup_nj (by decide), zup_self]; decide
  · rw [zup_nj (by decide), zup_self]; decide
  · rw [zup_self]
