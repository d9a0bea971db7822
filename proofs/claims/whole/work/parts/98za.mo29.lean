/-! THE MODEL, twenty-ninth: a part of the text, whole -/
theorem zite_cg {P R : Prop} {a b : Int} (h : P ↔ R) : zite P a b = zite R a b := by rw [propext h]
theorem c_Mo_readsPart {d : Nat} {kd : ZK} {m : ZM} {G : GR} {T : Int → Int} {n a : Int} (hT_q : MoT kd m T n) (hS_q : MoS m (a, 0)) (hR : heardIs m G) (ho : GOK G) (ht : 0 < G 0) (h0a : 0 ≤ a ∧ a ≤ n) : CtV (d + 6) M_Mo_readsPart [(2, 78)] kd m (fun m1_q => MoR m m1_q G (pBd T n G a)) := by
  have hob := hT_q.1.o
  have hn := hT_q.2.2.1
  have h0 := ho.1
  have htt := ho.2.1 ht
  have hr1 := rn_in (P := pB_ T) h0a.2
  have hr2 := rn_in (P := pL_ T) hr1.2
  obtain ⟨a1_q, ha1⟩ : ∃ r, r = rn (pB_ T) n a := ⟨_, rfl⟩
  rw [← ha1] at hr1 hr2
  obtain ⟨b, hb_q⟩ : ∃ r, r = rn (pL_ T) n a1_q := ⟨_, rfl⟩
  rw [← hb_q] at hr2
  obtain ⟨k, hk⟩ : ∃ r, r = knd T a1_q b := ⟨_, rfl⟩
  have hki := knd_in (T := T) (a := a1_q) (b := b)
  rw [← hk] at hki
  have hnx := nmR_in (T := T) (n := n) (lo := 0) (hi := G 0 - 1) (s := (b, 0)) ⟨by try simp only []; omega, by try simp only []; omega⟩ (Int.le_refl _) (by omega)
  obtain ⟨rx, hrx⟩ : ∃ r, r = nmR T n 0 (G 0 - 1) (b, 0) := ⟨_, rfl⟩
  rw [← hrx] at hnx
  have hny := nmR_in (T := T) (n := n) (lo := 0) (hi := G 1 - 1) (s := rx.2) hnx.2.1 hnx.2.2.1 (by omega)
  obtain ⟨ry, hry⟩ : ∃ r, r = nmR T n 0 (G 1 - 1) rx.2 := ⟨_, rfl⟩
  rw [← hry] at hny
  have hna := nmR_in (T := T) (n := n) (lo := 0) (hi := G 2 - 1) (s := ry.2) hny.2.1 hny.2.2.1 (by omega)
  obtain ⟨ra, hra⟩ : ∃ r, r = nmR T n 0 (G 2 - 1) ry.2 := ⟨_, rfl⟩
  rw [← hra] at hna
  have hnb := nmR_in (T := T) (n := n) (lo := 0) (hi := G 3 - 1) (s := ra.2) hna.2.1 hna.2.2.1 (by omega)
  obtain ⟨rb, hrb⟩ : ∃ r, r = nmR T n 0 (G 3 - 1) ra.2 := ⟨_, rfl⟩
  rw [← hrb] at hnb
  have hnw := nmR_in (T := T) (n := n) (lo := 0) (hi := 9) (s := ry.2) hny.2.1 hny.2.2.1 (by decide)
  have hnc := nmR_in (T := T) (n := n) (lo := 0) (hi := 12) (s := rb.2) hnb.2.1 hnb.2.2.1 (by decide)
  have hxx : 0 ≤ rx.1 ∧ rx.1 < G 0 := by omega
  have hyy : 0 ≤ ry.1 ∧ ry.1 < G 1 := by omega
  have haa : 0 ≤ ra.1 ∧ ra.1 < G 2 := by omega
  have hbb : 0 ≤ rb.1 ∧ rb.1 < G 3 := by omega
  have eB : pBd T n G a = if k = 0 then ((a1_q, 8 * a1_q + 1), G) else pKd T n k G (b, 0) := by
    rw [hk, hb_q, ha1]
    rfl
  have eK : pKd T n k G (b, 0) = if k = 1 then pWt T n G rx.1 ry.1 ry.2 else if k = 2 ∨ k = 7 then pSp T n k G rx.1 ry.1 ry.2 else (ry.2, if ry.2.2 = 0 then winW G k rx.1 ry.1 else G) := by
    rw [hry, hrx]
    rfl
  have eS : ∀ rt : Int × Int × Int, rt = pS3 T n k rb.2 → pSp T n k G rx.1 ry.1 ry.2 = (rt.2, if rt.2.2 = 0 then gup G ((if k = 7 then 429 else 29) + zS 0 rx.1 ry.1 ra.1 rb.1) rt.1 else G) := fun rt h => by
    rw [h, hrb, hra]
    rfl
  have K371 : ∀ (mm : ZM) (rt : Int × Int × Int), (k = 2 ∨ k = 7) → rt = pS3 T n k rb.2 → (0 ≤ rt.1 ∧ rt.1 ≤ (if k = 7 then 12 else 1)) → 0 ≤ rt.2.2 → MoR m mm G (rt.2, G) → Ev (d + 6) M_Mo_readsPart 0 0 371 [(2, 78), zJ, zJ, zJ, zJ, zJ, zJ, (0, zb (k = 7)), (0, rx.1), (0, ry.1), (0, ra.1), (0, rb.1), zJ] [(0, rt.1)] kd mm (zqV kd (fun m1_q => MoR m m1_q G (pBd T n G a))) := fun mm rt h27 hrt hbd hr0 hM_q => by
    have hTm := hT_q.r hM_q
    have hres : pBd T n G a = (rt.2, if rt.2.2 = 0 then gup G ((if k = 7 then 429 else 29) + zS 0 rx.1 ry.1 ra.1 rb.1) rt.1 else G) := by
      rw [eB, if_neg (by omega), eK, if_neg (by omega), if_pos h27, eS rt hrt]
    refine T_Mo_readsPart_371 ?_
    refine ⟨hob, _, c_Mo_isRight hob hM_q.2.1 hr0, ?_⟩
    rintro _ _ ⟨rfl, rfl⟩
    refine ⟨fun qc_1 => ?_, fun qc_1 => ⟨hob, fun qc_2 => ?_, fun qc_2 => ?_⟩⟩
    · rw [hres, if_neg (zb_eq0.1 qc_1)]
      exact hM_q
    · refine T_Mo_readsPart_397 ?_
      refine ⟨_, c_Mo_fourOf (by omega) (by omega) (by omega) (by omega), ?_⟩
      rintro _ _ ⟨rfl, rfl⟩
      have h7 := zb_eq0.1 qc_2
      rw [if_neg h7] at hbd
      have hp := hM_q.putV hxx hyy haa hbb hbd
      rw [hTm.1.r1, iw_s (x := 29 + (4 * (4 * (5 * rx.1 + ry.1) + ra.1) + rb.1)) (by omega) (by omega)]
      refine ⟨⟨829, hTm.1.k80, by omega, by omega⟩, ?_⟩
      rw [hres, if_pos (zb_ne0.1 qc_1), if_neg h7, zS0_v]
      rw [zS0_v] at hp
      exact hp
    · refine T_Mo_readsPart_397 ?_
      refine ⟨_, c_Mo_fourOf (by omega) (by omega) (by omega) (by omega), ?_⟩
      rintro _ _ ⟨rfl, rfl⟩
      have h7 := zb_ne0.1 qc_2
      rw [if_pos h7] at hbd
      have hp := hM_q.putB hxx hyy haa hbb hbd
      rw [hTm.1.r1, iw_s (x := 429 + (4 * (4 * (5 * rx.1 + ry.1) + ra.1) + rb.1)) (by omega) (by omega)]
      refine ⟨⟨829, hTm.1.k80, by omega, by omega⟩, ?_⟩
      rw [hres, if_pos (zb_ne0.1 qc_1), if_pos h7, zS0_v]
      rw [zS0_v] at hp
      exact hp
  have row : ∀ (mm : ZM) (t : Int × Int), MoR m mm G (t, G) → heardIs mm G := fun mm t h => h.2.2.1
  have K325 : ∀ mm : ZM, (k = 2 ∨ k = 7) → MoR m mm G (ry.2, G) → Ev (d + 6) M_Mo_readsPart 0 0 325 [(2, 78), zJ, zJ, zJ, zJ, zJ, zJ, (0, zb (k = 7)), (0, rx.1), (0, ry.1), zJ, zJ, zJ] [] kd mm (zqV kd (fun m1_q => MoR m m1_q G (pBd T n G a))) := fun mm h27 hM_q => by
    have hTm := hT_q.r hM_q
    refine T_Mo_readsPart_325 ?_
    rw [hTm.1.r1, row _ _ hM_q 2 (by decide) (by decide), iw_s (x := G 2 - 1) (by omega) (by omega)]
    refine ⟨hob, ⟨829, hTm.1.k80, by decide, by decide⟩, hob, _, c_Mo_number hTm hM_q.2.1 ⟨hny.2.1, hny.2.2.1⟩, ?_⟩
    rintro x2_q m3_q ⟨rfl, q3_q⟩
    rw [← hra] at q3_q ⊢
    have hM3 := hM_q.q q3_q
    have hT3 := hT_q.r hM3
    rw [hT3.1.r1, row _ _ hM3 3 (by decide) (by decide), iw_s (x := G 3 - 1) (by omega) (by omega)]
    refine ⟨hob, ⟨829, hTm.1.k80, by decide, by decide⟩, hob, _, c_Mo_number hT3 hM3.2.1 ⟨hna.2.1, hna.2.2.1⟩, ?_⟩
    rintro x5_q m6_q ⟨rfl, q6_q⟩
    rw [← hrb] at q6_q ⊢
    have hM6 := hM3.q q6_q
    have hT6 := hT_q.r hM6
    refine ⟨fun qc_1 => ?_, fun qc_1 => ?_⟩
    · have h7 := zb_eq0.1 qc_1
      exact K371 m6_q (1, rb.2) h27 (by unfold pS3; rw [if_neg h7]) (by rw [if_neg h7]; exact ⟨show (0 : Int) ≤ 1 by decide, show (1 : Int) ≤ 1 by decide⟩) hnb.2.2.1 hM6
    · have h7 := zb_ne0.1 qc_1
      refine ⟨hob, _, c_Mo_number hT6 hM6.2.1 ⟨hnb.2.1, hnb.2.2.1⟩, ?_⟩
      rintro x8 m9_q ⟨rfl, q9_q⟩
      exact K371 m9_q _ h27 (by unfold pS3; rw [if_pos h7]) (by rw [if_pos h7]; exact hnc.1) hnc.2.2.1 (hM6.q q9_q)
  have K233 : ∀ mm : ZM, k ≠ 0 → MoQ m mm (b, 0) → Ev (d + 6) M_Mo_readsPart 0 0 233 [(2, 78), (0, zb (k = 1)), (0, zb (k = 2)), (0, zb (k = 3)), (0, zb (k = 4)), (0, zb (k = 5)), (0, zb (k = 6)), (0, zb (k = 7)), zJ, zJ, zJ, zJ, zJ] [] kd mm (zqV kd (fun m1_q => MoR m m1_q G (pBd T n G a))) := fun mm hk0 hQ => by
    have hM_q := hQ.r hR ho
    have hTm := hT_q.r hM_q
    refine T_Mo_readsPart_233 ?_
    rw [hTm.1.r1, row _ _ hM_q 0 (by decide) (by decide), iw_s (x := G 0 - 1) (by omega) (by omega)]
    refine ⟨hob, ⟨829, hTm.1.k80, by decide, by decide⟩, hob, _, c_Mo_number hTm hM_q.2.1 ⟨⟨by try simp only []; omega, by try simp only []; omega⟩, Int.le_refl _⟩, ?_⟩
    rintro x2_q m3_q ⟨rfl, q3_q⟩
    rw [← hrx] at q3_q ⊢
    have hM3 := hM_q.q q3_q
    have hT3 := hT_q.r hM3
    rw [hT3.1.r1, row _ _ hM3 1 (by decide) (by decide), iw_s (x := G 1 - 1) (by omega) (by omega)]
    refine ⟨hob, ⟨829, hTm.1.k80, by decide, by decide⟩, hob, _, c_Mo_number hT3 hM3.2.1 ⟨hnx.2.1, hnx.2.2.1⟩, ?_⟩
    rintro x5_q m6_q ⟨rfl, q6_q⟩
    rw [← hry] at q6_q ⊢
    have hM6 := hM3.q q6_q
    have hT6 := hT_q.r hM6
    refine ⟨fun qc_1 => ?_, fun qc_1 => ?_⟩
    · have h1 := zb_eq0.1 qc_1
      refine ⟨hob, _, c_Mo_readsWins hT6.1 hM6.2.1 hny.2.2.1 (row _ _ hM6) ho hxx hyy, ?_⟩
      rintro m9_q q9_q
      have hM9 := hM6.tr q9_q
      have hno : (k = 2 ∨ k = 7) → MoR m m9_q G (ry.2, G) := fun h => by
        rw [winW_n (by omega), show (if ry.2.2 = 0 then G else G) = G by split <;> rfl] at hM9
        exact hM9
      refine ⟨fun qc_2 => K325 m9_q (Or.inl (zb_ne0.1 qc_2)) (hno (Or.inl (zb_ne0.1 qc_2))), fun qc_2 => ⟨fun qc_3 => K325 m9_q (Or.inr (zb_ne0.1 qc_3)) (hno (Or.inr (zb_ne0.1 qc_3))), fun qc_3 => ?_⟩⟩
      have h2 := zb_eq0.1 (Classical.not_not.1 qc_2)
      have h3 := zb_eq0.1 (Classical.not_not.1 qc_3)
      rw [eB, if_neg hk0, eK, if_neg h1, if_neg (by omega)]
      exact hM9
    · have h1 := zb_ne0.1 qc_1
      refine ⟨hob, _, c_Mo_number hT6 hM6.2.1 ⟨hny.2.1, hny.2.2.1⟩, ?_⟩
      rintro x11 m12_q ⟨rfl, q12_q⟩
      have hM12 := hM6.q q12_q
      have hres : pBd T n G a = ((nmR T n 0 9 ry.2).2, if (nmR T n 0 9 ry.2).2.2 = 0 then gup G (4 + zC 0 rx.1 ry.1) (nmR T n 0 9 ry.2).1 else G) := by
        rw [eB, if_neg hk0, eK, if_pos h1]
        rfl
      refine ⟨hob, _, c_Mo_isRight hob hM12.2.1 hnw.2.2.1, ?_⟩
      rintro _ _ ⟨rfl, rfl⟩
      refine ⟨fun qc_2 => ?_, fun qc_2 => ?_⟩
      · rw [hres, if_neg (zb_eq0.1 qc_2)]
        exact hM12
      · refine ⟨hob, _, c_Mo_twoOf (by omega) (by omega), ?_⟩
        rintro _ _ ⟨rfl, rfl⟩
        have hT12 := hT_q.r hM12
        rw [hT12.1.r1, iw_s (x := 4 + (5 * rx.1 + ry.1)) (by omega) (by omega)]
        refine ⟨⟨829, hT12.1.k80, by omega, by omega⟩, ?_⟩
        have hp := hM12.putW hxx hyy hnw.1
        rw [hres, if_pos (zb_ne0.1 qc_2), zC0_v]
        rw [zC0_v] at hp
        exact hp
  have hcv : ∀ (c j : Int), rn (pB_ T) n c = a1_q → 1 ≤ j → j ≤ 7 → (k = 0 ∨ j ≤ k) → ∀ (mm m1_q : ZM) (x : Int), (x = zb (isW T j (rn (pB_ T) n c) (rn (pL_ T) n (rn (pB_ T) n c))) ∧ MoQ mm m1_q (zite (isW T j (rn (pB_ T) n c) (rn (pL_ T) n (rn (pB_ T) n c))) (rn (pL_ T) n (rn (pB_ T) n c)) (rn (pB_ T) n c), 0)) → x = zb (k = j) ∧ MoQ mm m1_q (zite (k = j) b a1_q, 0) := fun c j hc_q h1 h7 hj mm m1_q x h => by
    rw [hc_q, ← hb_q] at h
    have hw := knd_w (T := T) (a := a1_q) (b := b) h1 h7 (by rw [← hk]; exact hj)
    rw [← hk] at hw
    rw [propext hw] at h
    exact h
  have haa1 : rn (pB_ T) n a1_q = a1_q := by rw [ha1]; exact rn_rn
  have K7 : ∀ mm : ZM, MoQ m mm (zite (1 ≤ k ∧ k ≤ 7) b a1_q, 0) → Ev (d + 6) M_Mo_readsPart 0 0 189 [(2, 78), (0, zb (k = 1)), (0, zb (k = 2)), (0, zb (k = 3)), (0, zb (k = 4)), (0, zb (k = 5)), (0, zb (k = 6)), zJ, zJ, zJ, zJ, zJ, zJ] [(0, zb (k = 7))] kd mm (zqV kd (fun m1_q => MoR m m1_q G (pBd T n G a))) := fun mm hQ => by
    have hs : (1 ≤ k ∧ k ≤ 7) → Ev (d + 6) M_Mo_readsPart 0 0 233 [(2, 78), (0, zb (k = 1)), (0, zb (k = 2)), (0, zb (k = 3)), (0, zb (k = 4)), (0, zb (k = 5)), (0, zb (k = 6)), (0, zb (k = 7)), zJ, zJ, zJ, zJ, zJ] [] kd mm (zqV kd (fun m1_q => MoR m m1_q G (pBd T n G a))) := fun hh => K233 mm (by omega) (by rw [zite_t hh] at hQ; exact hQ)
    refine T_Mo_readsPart_189 ?_
    refine ⟨fun qc_1 => hs (by have := zb_ne0.1 qc_1; omega), fun qc_1 => ⟨fun qc_2 => hs (by have := zb_ne0.1 qc_2; omega), fun qc_2 => ⟨fun qc_3 => hs (by have := zb_ne0.1 qc_3; omega), fun qc_3 => ⟨fun qc_4 => hs (by have := zb_ne0.1 qc_4; omega), fun qc_4 => ⟨fun qc_5 => hs (by have := zb_ne0.1 qc_5; omega), fun qc_5 => ⟨fun qc_6 => hs (by have := zb_ne0.1 qc_6; omega), fun qc_6 => ⟨fun qc_7 => hs (by have := zb_ne0.1 qc_7; omega), fun qc_7 => ?_⟩⟩⟩⟩⟩⟩⟩
    have n1_q := zb_eq0.1 (Classical.not_not.1 qc_1)
    have n2_q := zb_eq0.1 (Classical.not_not.1 qc_2)
    have n3_q := zb_eq0.1 (Classical.not_not.1 qc_3)
    have n4_q := zb_eq0.1 (Classical.not_not.1 qc_4)
    have n5_q := zb_eq0.1 (Classical.not_not.1 qc_5)
    have n6_q := zb_eq0.1 (Classical.not_not.1 qc_6)
    have n7 := zb_eq0.1 (Classical.not_not.1 qc_7)
    rw [zite_f (show ¬ (1 ≤ k ∧ k ≤ 7) by omega)] at hQ
    rw [hQ.2.1]
    refine ⟨hob, hob, _, c_Mo_fails hob hQ.2 (Int.le_refl 0) (by decide) (show 0 ≤ a1_q ∧ a1_q ≤ 400 by omega), ?_⟩
    rintro m3_q h3
    rw [if_pos rfl] at h3
    rw [eB, if_pos (by omega)]
    exact (hQ.tr h3).r hR ho
  have K6 : ∀ mm : ZM, MoQ m mm (zite (1 ≤ k ∧ k ≤ 6) b a1_q, 0) → Ev (d + 6) M_Mo_readsPart 0 0 146 [(2, 78), (0, zb (k = 1)), (0, zb (k = 2)), (0, zb (k = 3)), (0, zb (k = 4)), (0, zb (k = 5)), zJ, zJ, zJ, zJ, zJ, zJ, zJ] [(0, zb (k = 6))] kd mm (zqV kd (fun m1_q => MoR m m1_q G (pBd T n G a))) := fun mm hQ => by
    have hs : (1 ≤ k ∧ k ≤ 6) → Ev (d + 6) M_Mo_readsPart 0 0 189 [(2, 78), (0, zb (k = 1)), (0, zb (k = 2)), (0, zb (k = 3)), (0, zb (k = 4)), (0, zb (k = 5)), (0, zb (k = 6)), zJ, zJ, zJ, zJ, zJ, zJ] [(0, 0)] kd mm (zqV kd (fun m1_q => MoR m m1_q G (pBd T n G a))) := fun hh => by
      have hz := K7 mm (by rw [zite_t ⟨hh.1, by omega⟩]; rw [zite_t hh] at hQ; exact hQ)
      rw [zb_f (show ¬ k = 7 by omega)] at hz
      exact hz
    refine T_Mo_readsPart_146 ?_
    refine ⟨fun qc_1 => hs (by have := zb_ne0.1 qc_1; omega), fun qc_1 => ⟨fun qc_2 => hs (by have := zb_ne0.1 qc_2; omega), fun qc_2 => ⟨fun qc_3 => hs (by have := zb_ne0.1 qc_3; omega), fun qc_3 => ⟨fun qc_4 => hs (by have := zb_ne0.1 qc_4; omega), fun qc_4 => ⟨fun qc_5 => hs (by have := zb_ne0.1 qc_5; omega), fun qc_5 => ⟨fun qc_6 => hs (by have := zb_ne0.1 qc_6; omega), fun qc_6 => ?_⟩⟩⟩⟩⟩⟩
    have n1_q := zb_eq0.1 (Classical.not_not.1 qc_1)
    have n2_q := zb_eq0.1 (Classical.not_not.1 qc_2)
    have n3_q := zb_eq0.1 (Classical.not_not.1 qc_3)
    have n4_q := zb_eq0.1 (Classical.not_not.1 qc_4)
    have n5_q := zb_eq0.1 (Classical.not_not.1 qc_5)
    have n6_q := zb_eq0.1 (Classical.not_not.1 qc_6)
    rw [zite_f (show ¬ (1 ≤ k ∧ k ≤ 6) by omega)] at hQ
    refine ⟨hob, _, c_Mo_takes (hT_q.q hQ) hQ.2 (show 0 ≤ a1_q ∧ a1_q ≤ n by omega) (i := 7) (by decide), ?_⟩
    rintro x2_q m3_q w3_q
    obtain ⟨rfl, h3⟩ := hcv a1_q 7 haa1 (by decide) (by decide) (by omega) _ _ _ w3_q
    have hz := K7 m3_q (by rw [zite_cg (show (1 ≤ k ∧ k ≤ 7) ↔ k = 7 by omega)]; exact hQ.tr h3)
    refine ⟨fun c => ?_, fun c => ?_⟩
    · rw [show zb (k = 7) = 0 from c] at hz
      exact hz
    · rw [zb_t (zb_ne0.1 c)] at hz
      exact hz
  have K5 : ∀ mm : ZM, MoQ m mm (zite (1 ≤ k ∧ k ≤ 5) b a1_q, 0) → Ev (d + 6) M_Mo_readsPart 0 0 108 [(2, 78), (0, zb (k = 1)), (0, zb (k = 2)), (0, zb (k = 3)), (0, zb (k = 4)), zJ, zJ, zJ, zJ, zJ, zJ, zJ, zJ] [(0, zb (k = 5))] kd mm (zqV kd (fun m1_q => MoR m m1_q G (pBd T n G a))) := fun mm hQ => by
    have hs : (1 ≤ k ∧ k ≤ 5) → Ev (d + 6) M_Mo_readsPart 0 0 146 [(2, 78), (0, zb (k = 1)), (0, zb (k = 2)), (0, zb (k = 3)), (0, zb (k = 4)), (0, zb (k = 5)), zJ, zJ, zJ, zJ, zJ, zJ, zJ] [(0, 0)] kd mm (zqV kd (fun m1_q => MoR m m1_q G (pBd T n G a))) := fun hh => by
      have hz := K6 mm (by rw [zite_t ⟨hh.1, by omega⟩]; rw [zite_t hh] at hQ; exact hQ)
      rw [zb_f (show ¬ k = 6 by omega)] at hz
      exact hz
    refine T_Mo_readsPart_108 ?_
    refine ⟨fun qc_1 => hs (by have := zb_ne0.1 qc_1; omega), fun qc_1 => ⟨fun qc_2 => hs (by have := zb_ne0.1 qc_2; omega), fun qc_2 => ⟨fun qc_3 => hs (by have := zb_ne0.1 qc_3; omega), fun qc_3 => ⟨fun qc_4 => hs (by have := zb_ne0.1 qc_4; omega), fun qc_4 => ⟨fun qc_5 => hs (by have := zb_ne0.1 qc_5; omega), fun qc_5 => ?_⟩⟩⟩⟩⟩
    have n1_q := zb_eq0.1 (Classical.not_not.1 qc_1)
    have n2_q := zb_eq0.1 (Classical.not_not.1 qc_2)
    have n3_q := zb_eq0.1 (Classical.not_not.1 qc_3)
    have n4_q := zb_eq0.1 (Classical.not_not.1 qc_4)
    have n5_q := zb_eq0.1 (Classical.not_not.1 qc_5)
    rw [zite_f (show ¬ (1 ≤ k ∧ k ≤ 5) by omega)] at hQ
    refine ⟨hob, _, c_Mo_takes (hT_q.q hQ) hQ.2 (show 0 ≤ a1_q ∧ a1_q ≤ n by omega) (i := 6) (by decide), ?_⟩
    rintro x2_q m3_q w3_q
    obtain ⟨rfl, h3⟩ := hcv a1_q 6 haa1 (by decide) (by decide) (by omega) _ _ _ w3_q
    have hz := K6 m3_q (by rw [zite_cg (show (1 ≤ k ∧ k ≤ 6) ↔ k = 6 by omega)]; exact hQ.tr h3)
    refine ⟨fun c => ?_, fun c => ?_⟩
    · rw [show zb (k = 6) = 0 from c] at hz
      exact hz
    · rw [zb_t (zb_ne0.1 c)] at hz
      exact hz
  have K4 : ∀ mm : ZM, MoQ m mm (zite (1 ≤ k ∧ k ≤ 4) b a1_q, 0) → Ev (d + 6) M_Mo_readsPart 0 0 75 [(2, 78), (0, zb (k = 1)), (0, zb (k = 2)), (0, zb (k = 3)), zJ, zJ, zJ, zJ, zJ, zJ, zJ, zJ, zJ] [(0, zb (k = 4))] kd mm (zqV kd (fun m1_q => MoR m m1_q G (pBd T n G a))) := fun mm hQ => by
    have hs : (1 ≤ k ∧ k ≤ 4) → Ev (d + 6) M_Mo_readsPart 0 0 108 [(2, 78), (0, zb (k = 1)), (0, zb (k = 2)), (0, zb (k = 3)), (0, zb (k = 4)), zJ, zJ, zJ, zJ, zJ, zJ, zJ, zJ] [(0, 0)] kd mm (zqV kd (fun m1_q => MoR m m1_q G (pBd T n G a))) := fun hh => by
      have hz := K5 mm (by rw [zite_t ⟨hh.1, by omega⟩]; rw [zite_t hh] at hQ; exact hQ)
      rw [zb_f (show ¬ k = 5 by omega)] at hz
      exact hz
    refine T_Mo_readsPart_75 ?_
    refine ⟨fun qc_1 => hs (by have := zb_ne0.1 qc_1; omega), fun qc_1 => ⟨fun qc_2 => hs (by have := zb_ne0.1 qc_2; omega), fun qc_2 => ⟨fun qc_3 => hs (by have := zb_ne0.1 qc_3; omega), fun qc_3 => ⟨fun qc_4 => hs (by have := zb_ne0.1 qc_4; omega), fun qc_4 => ?_⟩⟩⟩⟩
    have n1_q := zb_eq0.1 (Classical.not_not.1 qc_1)
    have n2_q := zb_eq0.1 (Classical.not_not.1 qc_2)
    have n3_q := zb_eq0.1 (Classical.not_not.1 qc_3)
    have n4_q := zb_eq0.1 (Classical.not_not.1 qc_4)
    rw [zite_f (show ¬ (1 ≤ k ∧ k ≤ 4) by omega)] at hQ
    refine ⟨hob, _, c_Mo_takes (hT_q.q hQ) hQ.2 (show 0 ≤ a1_q ∧ a1_q ≤ n by omega) (i := 5) (by decide), ?_⟩
    rintro x2_q m3_q w3_q
    obtain ⟨rfl, h3⟩ := hcv a1_q 5 haa1 (by decide) (by decide) (by omega) _ _ _ w3_q
    have hz := K5 m3_q (by rw [zite_cg (show (1 ≤ k ∧ k ≤ 5) ↔ k = 5 by omega)]; exact hQ.tr h3)
    refine ⟨fun c => ?_, fun c => ?_⟩
    · rw [show zb (k = 5) = 0 from c] at hz
      exact hz
    · rw [zb_t (zb_ne0.1 c)] at hz
      exact hz
  have K3 : ∀ mm : ZM, MoQ m mm (zite (1 ≤ k ∧ k ≤ 3) b a1_q, 0) → Ev (d + 6) M_Mo_readsPart 0 0 48 [(2, 78), (0, zb (k = 1)), (0, zb (k = 2)), zJ, zJ, zJ, zJ, zJ, zJ, zJ, zJ, zJ, zJ] [(0, zb (k = 3))] kd mm (zqV kd (fun m1_q => MoR m m1_q G (pBd T n G a))) := fun mm hQ => by
    have hs : (1 ≤ k ∧ k ≤ 3) → Ev (d + 6) M_Mo_readsPart 0 0 75 [(2, 78), (0, zb (k = 1)), (0, zb (k = 2)), (0, zb (k = 3)), zJ, zJ, zJ, zJ, zJ, zJ, zJ, zJ, zJ] [(0, 0)] kd mm (zqV kd (fun m1_q => MoR m m1_q G (pBd T n G a))) := fun hh => by
      have hz := K4 mm (by rw [zite_t ⟨hh.1, by omega⟩]; rw [zite_t hh] at hQ; exact hQ)
      rw [zb_f (show ¬ k = 4 by omega)] at hz
      exact hz
    refine T_Mo_readsPart_48 ?_
    refine ⟨fun qc_1 => hs (by have := zb_ne0.1 qc_1; omega), fun qc_1 => ⟨fun qc_2 => hs (by have := zb_ne0.1 qc_2; omega), fun qc_2 => ⟨fun qc_3 => hs (by have := zb_ne0.1 qc_3; omega), fun qc_3 => ?_⟩⟩⟩
    have n1_q := zb_eq0.1 (Classical.not_not.1 qc_1)
    have n2_q := zb_eq0.1 (Classical.not_not.1 qc_2)
    have n3_q := zb_eq0.1 (Classical.not_not.1 qc_3)
    rw [zite_f (show ¬ (1 ≤ k ∧ k ≤ 3) by omega)] at hQ
    refine ⟨hob, _, c_Mo_takes (hT_q.q hQ) hQ.2 (show 0 ≤ a1_q ∧ a1_q ≤ n by omega) (i := 4) (by decide), ?_⟩
    rintro x2_q m3_q w3_q
    obtain ⟨rfl, h3⟩ := hcv a1_q 4 haa1 (by decide) (by decide) (by omega) _ _ _ w3_q
    have hz := K4 m3_q (by rw [zite_cg (show (1 ≤ k ∧ k ≤ 4) ↔ k = 4 by omega)]; exact hQ.tr h3)
    refine ⟨fun c => ?_, fun c => ?_⟩
    · rw [show zb (k = 4) = 0 from c] at hz
      exact hz
    · rw [zb_t (zb_ne0.1 c)] at hz
      exact hz
  have K2 : ∀ mm : ZM, MoQ m mm (zite (1 ≤ k ∧ k ≤ 2) b a1_q, 0) → Ev (d + 6) M_Mo_readsPart 0 0 25 [(2, 78), (0, zb (k = 1)), zJ, zJ, zJ, zJ, zJ, zJ, zJ, zJ, zJ, zJ, zJ] [(0, zb (k = 2))] kd mm (zqV kd (fun m1_q => MoR m m1_q G (pBd T n G a))) := fun mm hQ => by
    have hs : (1 ≤ k ∧ k ≤ 2) → Ev (d + 6) M_Mo_readsPart 0 0 48 [(2, 78), (0, zb (k = 1)), (0, zb (k = 2)), zJ, zJ, zJ, zJ, zJ, zJ, zJ, zJ, zJ, zJ] [(0, 0)] kd mm (zqV kd (fun m1_q => MoR m m1_q G (pBd T n G a))) := fun hh => by
      have hz := K3 mm (by rw [zite_t ⟨hh.1, by omega⟩]; rw [zite_t hh] at hQ; exact hQ)
      rw [zb_f (show ¬ k = 3 by omega)] at hz
      exact hz
    refine T_Mo_readsPart_25 ?_
    refine ⟨fun qc_1 => hs (by have := zb_ne0.1 qc_1; omega), fun qc_1 => ⟨fun qc_2 => hs (by have := zb_ne0.1 qc_2; omega), fun qc_2 => ?_⟩⟩
    have n1_q := zb_eq0.1 (Classical.not_not.1 qc_1)
    have n2_q := zb_eq0.1 (Classical.not_not.1 qc_2)
    rw [zite_f (show ¬ (1 ≤ k ∧ k ≤ 2) by omega)] at hQ
    refine ⟨hob, _, c_Mo_takes (hT_q.q hQ) hQ.2 (show 0 ≤ a1_q ∧ a1_q ≤ n by omega) (i := 3) (by decide), ?_⟩
    rintro x2_q m3_q w3_q
    obtain ⟨rfl, h3⟩ := hcv a1_q 3 haa1 (by decide) (by decide) (by omega) _ _ _ w3_q
    have hz := K3 m3_q (by rw [zite_cg (show (1 ≤ k ∧ k ≤ 3) ↔ k = 3 by omega)]; exact hQ.tr h3)
    refine ⟨fun c => ?_, fun c => ?_⟩
    · rw [show zb (k = 3) = 0 from c] at hz
      exact hz
    · rw [zb_t (zb_ne0.1 c)] at hz
      exact hz
  refine S_Mo_readsPart ?_
  refine ⟨hob, _, c_Mo_takes hT_q hS_q (show 0 ≤ a ∧ a ≤ n from h0a) (i := 1) (by decide), ?_⟩
  rintro x2_q m3_q w3_q
  obtain ⟨rfl, h3⟩ := hcv a 1 ha1.symm (by decide) (by decide) (by omega) _ _ _ w3_q
  refine ⟨fun c => ?_, fun c => ?_⟩
  · have h1 := zb_ne0.1 c
    have hz := K2 m3_q (by rw [zite_cg (show (1 ≤ k ∧ k ≤ 2) ↔ k = 1 by omega)]; exact h3)
    rw [zb_f (show ¬ k = 2 by omega)] at hz
    exact hz
  · have h1 := zb_eq0.1 (Classical.not_not.1 c)
    rw [zite_f h1] at h3
    refine ⟨hob, _, c_Mo_takes (hT_q.q h3) h3.2 (show 0 ≤ a1_q ∧ a1_q ≤ n by omega) (i := 2) (by decide), ?_⟩
    rintro x5_q m6_q w6_q
    obtain ⟨rfl, h6⟩ := hcv a1_q 2 haa1 (by decide) (by decide) (by omega) _ _ _ w6_q
    have hz := K2 m6_q (by rw [zite_cg (show (1 ≤ k ∧ k ≤ 2) ↔ k = 2 by omega)]; exact h3.tr h6)
    refine ⟨fun c => ?_, fun c => ?_⟩
    · rw [show zb (k = 2) = 0 from c] at hz
      exact hz
    · rw [zb_t (zb_ne0.1 c)] at hz
      exact hz
