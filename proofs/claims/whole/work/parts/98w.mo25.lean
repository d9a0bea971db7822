/-! THE MODEL, twenty-fifth: letter -/
theorem gV_o {G : GR} (ho : GOK G) {x y a b : Int} (h : G 0 ≤ x ∨ G 1 ≤ y ∨ G 2 ≤ a ∨ G 3 ≤ b) : gV G x y a b = 0 := (ho.2.2.2.2 x y a b h).1
theorem gB_o {G : GR} (ho : GOK G) {x y a b : Int} (h : G 0 ≤ x ∨ G 1 ≤ y ∨ G 2 ≤ a ∨ G 3 ≤ b) : gB G x y a b = 0 := (ho.2.2.2.2 x y a b h).2
theorem c_Mo_writesWin {d : Nat} {kd : ZK} {m : ZM} {G : GR} {w : Int} {s : Int × Int} (h : MG kd m G) (hI : LSI m w s) : CtV (d + 6) M_Mo_writesFours [(2, 78), (0, 0)] kd m (fun m1_q => LSQ m m1_q w (wSpots w 9 0 G (gV G) s)) := by
  have hob := h.s.o
  rw [← wSpots_k h.ok (V := gV G) (fun x y a b hh => gV_o h.ok hh) s]
  have qL0 := zfor2 400 (fun (k : Int) (mm : ZM) (t : Int × Int) => Ev (d + 6) M_Mo_writesFours 0 0 2 [(2, 78), (0, 0), (0, k), zJ, zJ] [] kd mm (zqV kd (fun m1_q => LSQ m m1_q w (zfold 400 (fun k s => wCell w 9 0 (k / 80) (k / 16 % 5) (k / 4 % 4) (k % 4) (gV G (k / 80) (k / 16 % 5) (k / 4 % 4) (k % 4)) s) s)))) (fun (k : Int) (mm : ZM) (t : Int × Int) => 0 ≤ k ∧ LSQ m mm w t ∧ t = zfold k.toNat (fun k s => wCell w 9 0 (k / 80) (k / 16 % 5) (k / 4 % 4) (k % 4) (gV G (k / 80) (k / 16 % 5) (k / 4 % 4) (k % 4)) s) s) (by
    intro k mm t hb_q hI0 qKL0
    obtain ⟨hk0, hQ, ht⟩ := hI0
    have hmg := h.mf hQ.mf
    have r0 := hmg.s.r0
    refine T_Mo_writesFours_2 ?_
    refine ⟨fun qc_1 => ?_, fun qc_1 => ?_⟩
    · rw [show k = 400 by omega] at ht
      rw [ht] at hQ
      exact hQ
    · refine ⟨hob, ?_⟩
      have hk1 : k < 400 := by omega
      have ev : mm 79 (29 + k) = gV G (k / 80) (k / 16 % 5) (k / 4 % 4) (k % 4) := by rw [hmg.now (by omega) (by omega)]; exact (G_V hk0 hk1).1
      have e1_q : Int.tdiv k 16 = k / 16 := Int.tdiv_eq_ediv_of_nonneg hk0
      have e2_q : Int.tdiv (k / 16) 5 = k / 80 := by rw [Int.tdiv_eq_ediv_of_nonneg (by omega)]; omega
      have e3_q : Int.tmod (k / 16) 5 = k / 16 % 5 := Int.tmod_eq_emod_of_nonneg (by omega)
      have e4_q : Int.tdiv k 4 = k / 4 := Int.tdiv_eq_ediv_of_nonneg hk0
      have e5_q : Int.tmod (k / 4) 4 = k / 4 % 4 := Int.tmod_eq_emod_of_nonneg (by omega)
      have e6_q : Int.tmod k 4 = k % 4 := Int.tmod_eq_emod_of_nonneg hk0
      have hc0 : ∀ vv : Int, vv ≠ 0 → gV G (k / 80) (k / 16 % 5) (k / 4 % 4) (k % 4) = vv → Ev (d + 6) M_Mo_writesFours 0 0 56 [(2, 78), (0, 0), (0, k), (0, vv), (0, k / 16)] [(3, 9), (2, 78)] kd mm (zqV kd (fun m1_q => LSQ m m1_q w (zfold 400 (fun k s => wCell w 9 0 (k / 80) (k / 16 % 5) (k / 4 % 4) (k % 4) (gV G (k / 80) (k / 16 % 5) (k / 4 % 4) (k % 4)) s) s))) := fun vv hv he => by
        refine T_Mo_writesFours_56 ?_
        rw [e2_q, e3_q, e4_q, iw_s (x := k / 4) (by omega) (by omega), e5_q, e6_q, iw_s (x := k / 80) (by omega) (by omega), iw_s (x := k + 1) (by omega) (by omega)]
        refine ⟨hob, _, c_Mo_writesWord hob hQ.2 (by decide), ?_⟩
        rintro m3_q h1
        refine ⟨hob, _, c_Mo_writesNumber hob h1.2, ?_⟩
        rintro m6_q h2
        refine ⟨hob, _, c_Mo_writesNumber hob h2.2, ?_⟩
        rintro m9_q h3
        refine ⟨hob, _, c_Mo_writesNumber hob h3.2, ?_⟩
        rintro m12_q h4
        refine ⟨hob, _, c_Mo_writesNumber hob h4.2, ?_⟩
        rintro m15 h5
        have hF := ((((hQ.tr h1).tr h2).tr h3).tr h4).tr h5
        refine ⟨fun qc_3 => ?_, fun qc_3 => ?_⟩
        · refine qKL0 _ _ hk1 ⟨by omega, hF, ?_⟩
          rw [zfold_1 hk0, ← ht, wCell, if_neg (by rw [he]; exact hv), if_pos rfl]
          rfl
        · exact absurd rfl qc_3
      have h25 : Ev (d + 6) M_Mo_writesFours 0 0 25 [(2, 78), (0, 0), (0, k), zJ, zJ] [(0, 29), (2, 79)] kd mm (zqV kd (fun m1_q => LSQ m m1_q w (zfold 400 (fun k s => wCell w 9 0 (k / 80) (k / 16 % 5) (k / 4 % 4) (k % 4) (gV G (k / 80) (k / 16 % 5) (k / 4 % 4) (k % 4)) s) s))) := by
        refine T_Mo_writesFours_25 ?_
        rw [iw_s (x := 29 + k) (by omega) (by omega), ev, e1_q, iw_s (x := k / 16) (by omega) (by omega), iw_s (x := k + 1) (by omega) (by omega)]
        refine ⟨⟨829, hmg.s.k79, by omega, by omega⟩, fun qc_1 => ⟨fun qc_2 => ?_, fun qc_2 => ?_⟩, fun qc_1 => ?_⟩
        · exact hc0 _ qc_1 rfl
        · exact absurd rfl qc_2
        · refine qKL0 _ _ hk1 ⟨by omega, hQ, ?_⟩
          rw [zfold_1 hk0, ← ht, wCell, if_pos (Classical.not_not.1 qc_1)]
      rw [r0]
      refine ⟨fun qc_2 => ?_, fun qc_2 => ?_⟩
      · exact h25
      · exact absurd rfl qc_2)
  refine S_Mo_writesFours ?_
  exact qL0 0 m s (by decide) ⟨by decide, LSQ.rf hI, rfl⟩
theorem c_Mo_writesBox {d : Nat} {kd : ZK} {m : ZM} {G : GR} {w : Int} {s : Int × Int} (h : MG kd m G) (hI : LSI m w s) : CtV (d + 6) M_Mo_writesFours [(2, 78), (0, 1)] kd m (fun m1_q => LSQ m m1_q w (wSpots w 10 1 G (gB G) s)) := by
  have hob := h.s.o
  rw [← wSpots_k h.ok (V := gB G) (fun x y a b hh => gB_o h.ok hh) s]
  have qL0 := zfor2 400 (fun (k : Int) (mm : ZM) (t : Int × Int) => Ev (d + 6) M_Mo_writesFours 0 0 2 [(2, 78), (0, 1), (0, k), zJ, zJ] [] kd mm (zqV kd (fun m1_q => LSQ m m1_q w (zfold 400 (fun k s => wCell w 10 1 (k / 80) (k / 16 % 5) (k / 4 % 4) (k % 4) (gB G (k / 80) (k / 16 % 5) (k / 4 % 4) (k % 4)) s) s)))) (fun (k : Int) (mm : ZM) (t : Int × Int) => 0 ≤ k ∧ LSQ m mm w t ∧ t = zfold k.toNat (fun k s => wCell w 10 1 (k / 80) (k / 16 % 5) (k / 4 % 4) (k % 4) (gB G (k / 80) (k / 16 % 5) (k / 4 % 4) (k % 4)) s) s) (by
    intro k mm t hb_q hI0 qKL0
    obtain ⟨hk0, hQ, ht⟩ := hI0
    have hmg := h.mf hQ.mf
    have r0 := hmg.s.r0
    refine T_Mo_writesFours_2 ?_
    refine ⟨fun qc_1 => ?_, fun qc_1 => ?_⟩
    · rw [show k = 400 by omega] at ht
      rw [ht] at hQ
      exact hQ
    · refine ⟨hob, ?_⟩
      have hk1 : k < 400 := by omega
      have ev : mm 79 (429 + k) = gB G (k / 80) (k / 16 % 5) (k / 4 % 4) (k % 4) := by rw [hmg.now (by omega) (by omega)]; exact (G_V hk0 hk1).2
      have e1_q : Int.tdiv k 16 = k / 16 := Int.tdiv_eq_ediv_of_nonneg hk0
      have e2_q : Int.tdiv (k / 16) 5 = k / 80 := by rw [Int.tdiv_eq_ediv_of_nonneg (by omega)]; omega
      have e3_q : Int.tmod (k / 16) 5 = k / 16 % 5 := Int.tmod_eq_emod_of_nonneg (by omega)
      have e4_q : Int.tdiv k 4 = k / 4 := Int.tdiv_eq_ediv_of_nonneg hk0
      have e5_q : Int.tmod (k / 4) 4 = k / 4 % 4 := Int.tmod_eq_emod_of_nonneg (by omega)
      have e6_q : Int.tmod k 4 = k % 4 := Int.tmod_eq_emod_of_nonneg hk0
      have hc0 : ∀ vv : Int, vv ≠ 0 → gB G (k / 80) (k / 16 % 5) (k / 4 % 4) (k % 4) = vv → Ev (d + 6) M_Mo_writesFours 0 0 56 [(2, 78), (0, 1), (0, k), (0, vv), (0, k / 16)] [(3, 10), (2, 78)] kd mm (zqV kd (fun m1_q => LSQ m m1_q w (zfold 400 (fun k s => wCell w 10 1 (k / 80) (k / 16 % 5) (k / 4 % 4) (k % 4) (gB G (k / 80) (k / 16 % 5) (k / 4 % 4) (k % 4)) s) s))) := fun vv hv he => by
        refine T_Mo_writesFours_56 ?_
        rw [e2_q, e3_q, e4_q, iw_s (x := k / 4) (by omega) (by omega), e5_q, e6_q, iw_s (x := k / 80) (by omega) (by omega), iw_s (x := k + 1) (by omega) (by omega)]
        refine ⟨hob, _, c_Mo_writesWord hob hQ.2 (by decide), ?_⟩
        rintro m3_q h1
        refine ⟨hob, _, c_Mo_writesNumber hob h1.2, ?_⟩
        rintro m6_q h2
        refine ⟨hob, _, c_Mo_writesNumber hob h2.2, ?_⟩
        rintro m9_q h3
        refine ⟨hob, _, c_Mo_writesNumber hob h3.2, ?_⟩
        rintro m12_q h4
        refine ⟨hob, _, c_Mo_writesNumber hob h4.2, ?_⟩
        rintro m15 h5
        have hF := ((((hQ.tr h1).tr h2).tr h3).tr h4).tr h5
        refine ⟨fun qc_3 => ?_, fun qc_3 => ?_⟩
        · exact absurd qc_3 (by decide)
        · refine ⟨hob, _, c_Mo_writesNumber hob h5.2, ?_⟩
          rintro m18 h6
          refine qKL0 _ _ hk1 ⟨by omega, hF.tr h6, ?_⟩
          rw [zfold_1 hk0, ← ht, wCell, if_neg (by rw [he]; exact hv), if_neg (by decide), he]
          rfl
      have h25 : Ev (d + 6) M_Mo_writesFours 0 0 25 [(2, 78), (0, 1), (0, k), zJ, zJ] [(0, 429), (2, 79)] kd mm (zqV kd (fun m1_q => LSQ m m1_q w (zfold 400 (fun k s => wCell w 10 1 (k / 80) (k / 16 % 5) (k / 4 % 4) (k % 4) (gB G (k / 80) (k / 16 % 5) (k / 4 % 4) (k % 4)) s) s))) := by
        refine T_Mo_writesFours_25 ?_
        rw [iw_s (x := 429 + k) (by omega) (by omega), ev, e1_q, iw_s (x := k / 16) (by omega) (by omega), iw_s (x := k + 1) (by omega) (by omega)]
        refine ⟨⟨829, hmg.s.k79, by omega, by omega⟩, fun qc_1 => ⟨fun qc_2 => ?_, fun qc_2 => ?_⟩, fun qc_1 => ?_⟩
        · exact absurd qc_2 (by decide)
        · exact hc0 _ qc_1 rfl
        · refine qKL0 _ _ hk1 ⟨by omega, hQ, ?_⟩
          rw [zfold_1 hk0, ← ht, wCell, if_pos (Classical.not_not.1 qc_1)]
      rw [r0]
      refine ⟨fun qc_2 => ?_, fun qc_2 => ?_⟩
      · exact absurd qc_2 (by decide)
      · exact h25)
  refine S_Mo_writesFours ?_
  exact qL0 0 m s (by decide) ⟨by decide, LSQ.rf hI, rfl⟩
