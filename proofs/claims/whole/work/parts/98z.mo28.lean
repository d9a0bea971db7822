/-! THE MODEL, twenty-eighth: a part of the text -/
/-- place, fault and the row that is heard -/
def MoR (m m1_q : ZM) (G : GR) (r : PS) : Prop := ((∀ c, c ≠ 78 → c ≠ 80 → m1_q c = m c) ∧ ∀ k, k ≠ 9 → k ≠ 10 → k ≠ 11 → m1_q 78 k = m 78 k) ∧ MoS m1_q r.1 ∧ (∀ i, 0 ≤ i → i < 829 → m1_q 80 i = r.2 i) ∧ sGK G r.2
def heardIs (m : ZM) (G : GR) : Prop := ∀ i, 0 ≤ i → i < 829 → m 80 i = G i
theorem MoQ.r {m m1_q : ZM} {G : GR} {s : Int × Int} (h : MoQ m m1_q s) (hR : heardIs m G) (ho : GOK G) : MoR m m1_q G (s, G) := ⟨⟨fun c qc_1 _ => h.1.1 c qc_1, h.1.2⟩, h.2, fun i i0_q i1_q => by rw [h.1.1 80 (by decide)]; exact hR i i0_q i1_q, sGK.rf ho⟩
theorem MoR.q {m m1_q m2_q : ZM} {G K : GR} {s t : Int × Int} (h : MoR m m1_q G (s, K)) (k : MoQ m1_q m2_q t) : MoR m m2_q G (t, K) := ⟨⟨fun c qc_1 qc_2 => by rw [k.1.1 c qc_1, h.1.1 c qc_1 qc_2], fun c qc_1 qc_2 qc_3 => by rw [k.1.2 c qc_1 qc_2 qc_3, h.1.2 c qc_1 qc_2 qc_3]⟩, k.2, fun i i0_q i1_q => by rw [k.1.1 80 (by decide)]; exact h.2.2.1 i i0_q i1_q, h.2.2.2⟩
theorem MoR.tr {m m1_q m2_q : ZM} {G K : GR} {s : Int × Int} {r : PS} (h : MoR m m1_q G (s, K)) (k : MoR m1_q m2_q K r) : MoR m m2_q G r := ⟨⟨fun c qc_1 qc_2 => by rw [k.1.1 c qc_1 qc_2, h.1.1 c qc_1 qc_2], fun c qc_1 qc_2 qc_3 => by rw [k.1.2 c qc_1 qc_2 qc_3, h.1.2 c qc_1 qc_2 qc_3]⟩, k.2.1, k.2.2.1, k.2.2.2.1, by rw [k.2.2.2.2.1]; exact h.2.2.2.2.1, by rw [k.2.2.2.2.2.1]; exact h.2.2.2.2.2.1, by rw [k.2.2.2.2.2.2.1]; exact h.2.2.2.2.2.2.1, by rw [k.2.2.2.2.2.2.2]; exact h.2.2.2.2.2.2.2⟩
theorem MoQ.tr_r {m m1_q m2_q : ZM} {G : GR} {s : Int × Int} {r : PS} (h : MoQ m m1_q s) (k : MoR m1_q m2_q G r) : MoR m m2_q G r := ⟨⟨fun c qc_1 qc_2 => by rw [k.1.1 c qc_1 qc_2, h.1.1 c qc_1], fun c qc_1 qc_2 qc_3 => by rw [k.1.2 c qc_1 qc_2 qc_3, h.1.2 c qc_1 qc_2 qc_3]⟩, k.2⟩
theorem MoT.r {kd : ZK} {m m1_q : ZM} {T : Int → Int} {n : Int} {G : GR} {r : PS} (h : MoT kd m T n) (k : MoR m m1_q G r) : MoT kd m1_q T n := by
  unfold MoT
  rw [k.1.1 85 (by decide) (by decide), k.1.2 8 (by decide) (by decide) (by decide)]
  refine ⟨⟨h.1.1, ?_⟩, h.2⟩
  unfold MR
  rw [k.1.2 0 (by decide) (by decide) (by decide), k.1.2 1 (by decide) (by decide) (by decide), k.1.2 2 (by decide) (by decide) (by decide), k.1.2 3 (by decide) (by decide) (by decide), k.1.2 4 (by decide) (by decide) (by decide), k.1.2 5 (by decide) (by decide) (by decide), k.1.2 7 (by decide) (by decide) (by decide), k.1.2 12 (by decide) (by decide) (by decide), k.1.2 13 (by decide) (by decide) (by decide), k.1.2 15 (by decide) (by decide) (by decide), k.1.2 17 (by decide) (by decide) (by decide), k.1.2 18 (by decide) (by decide) (by decide), k.1.2 19 (by decide) (by decide) (by decide), k.1.2 20 (by decide) (by decide) (by decide), k.1.2 21 (by decide) (by decide) (by decide), k.1.2 22 (by decide) (by decide) (by decide)]
  exact h.1.2
theorem MoR.put {m m1_q : ZM} {G K : GR} {s : Int × Int} (h : MoR m m1_q G (s, K)) {k v : Int} (hk : 4 ≤ k) (ho : GOK (gup K k v)) : MoR m (zup m1_q 80 k v) G (s, gup K k v) := by
  refine ⟨⟨fun c qc_1 qc_2 => by rw [zup_off qc_2]; exact h.1.1 c qc_1 qc_2, fun c qc_1 qc_2 qc_3 => by rw [zup_off (by decide)]; exact h.1.2 c qc_1 qc_2 qc_3⟩, ⟨by rw [zup_off (by decide)]; exact h.2.1.1, by rw [zup_off (by decide)]; exact h.2.1.2⟩, fun i i0_q i1_q => ?_, ho, gup_sz hk h.2.2.2.2⟩
  rw [zup_at]
  show gup (m1_q 80) k v i = gup K k v i
  unfold gup
  split
  · rfl
  · exact h.2.2.1 i i0_q i1_q
theorem MoR.putV {m m1_q : ZM} {G K : GR} {s : Int × Int} (h : MoR m m1_q G (s, K)) {x y a b v : Int} (hx : 0 ≤ x ∧ x < G 0) (hy : 0 ≤ y ∧ y < G 1) (ha_q : 0 ≤ a ∧ a < G 2) (hb_q : 0 ≤ b ∧ b < G 3) (hv : 0 ≤ v ∧ v ≤ 1) : MoR m (zup m1_q 80 (29 + zS 0 x y a b) v) G (s, gup K (29 + zS 0 x y a b) v) := by
  obtain ⟨q, q1_q, q2_q, q3_q, q4_q⟩ : sGK G K := h.2.2.2
  have e := q.1
  have z := zS_in (p := 0) (x := x) (y := y) (a := a) (b := b) (by omega) (by omega) (by omega) (by omega)
  exact h.put (by omega) (q.gupVp (Or.inl rfl) (show 0 ≤ x ∧ x < K 0 by omega) (show 0 ≤ y ∧ y < K 1 by omega) (show 0 ≤ a ∧ a < K 2 by omega) (show 0 ≤ b ∧ b < K 3 by omega) hv)
theorem MoR.putB {m m1_q : ZM} {G K : GR} {s : Int × Int} (h : MoR m m1_q G (s, K)) {x y a b v : Int} (hx : 0 ≤ x ∧ x < G 0) (hy : 0 ≤ y ∧ y < G 1) (ha_q : 0 ≤ a ∧ a < G 2) (hb_q : 0 ≤ b ∧ b < G 3) (hv : 0 ≤ v ∧ v ≤ 12) : MoR m (zup m1_q 80 (429 + zS 0 x y a b) v) G (s, gup K (429 + zS 0 x y a b) v) := by
  obtain ⟨q, q1_q, q2_q, q3_q, q4_q⟩ : sGK G K := h.2.2.2
  have e := q.1
  have z := zS_in (p := 0) (x := x) (y := y) (a := a) (b := b) (by omega) (by omega) (by omega) (by omega)
  exact h.put (by omega) (q.gupBp (Or.inl rfl) (show 0 ≤ x ∧ x < K 0 by omega) (show 0 ≤ y ∧ y < K 1 by omega) (show 0 ≤ a ∧ a < K 2 by omega) (show 0 ≤ b ∧ b < K 3 by omega) hv)
theorem MoR.putW {m m1_q : ZM} {G K : GR} {s : Int × Int} (h : MoR m m1_q G (s, K)) {x y v : Int} (hx : 0 ≤ x ∧ x < G 0) (hy : 0 ≤ y ∧ y < G 1) (hv : 0 ≤ v ∧ v ≤ 9) : MoR m (zup m1_q 80 (4 + zC 0 x y) v) G (s, gup K (4 + zC 0 x y) v) := by
  obtain ⟨q, q1_q, q2_q, q3_q, q4_q⟩ : sGK G K := h.2.2.2
  have e := q.1
  have z := zC_in (p := 0) (x := x) (y := y) (by omega) (by omega)
  exact h.put (by omega) (q.gupWp (Or.inl rfl) (show 0 ≤ x ∧ x < K 0 by omega) (show 0 ≤ y ∧ y < K 1 by omega) hv)
theorem zS0_v {x y a b : Int} : zS 0 x y a b = 4 * (4 * (5 * x + y) + a) + b := by rw [zS_v, if_pos rfl]
theorem zC0_v {x y : Int} : zC 0 x y = 5 * x + y := by rw [zC_v, if_pos rfl]
theorem knd_w {T : Int → Int} {a b j : Int} (h1 : 1 ≤ j) (h7 : j ≤ 7) (h : knd T a b = 0 ∨ j ≤ knd T a b) : isW T j a b ↔ knd T a b = j := by
  unfold knd at h ⊢
  rcases Classical.em (isW T 1 a b) with w1_q | w1_q
  · rw [zite_t w1_q] at h ⊢
    rcases (show j = 1 by omega) with q <;> subst q
    exact ⟨fun _ => rfl, fun _ => w1_q⟩
  · rw [zite_f w1_q] at h ⊢
    rcases Classical.em (isW T 2 a b) with w2_q | w2_q
    · rw [zite_t w2_q] at h ⊢
      rcases (show j = 1 ∨ j = 2 by omega) with q | q <;> subst q
      · exact ⟨fun w => absurd w w1_q, fun e => absurd e (by decide)⟩
      · exact ⟨fun _ => rfl, fun _ => w2_q⟩
    · rw [zite_f w2_q] at h ⊢
      rcases Classical.em (isW T 3 a b) with w3_q | w3_q
      · rw [zite_t w3_q] at h ⊢
        rcases (show j = 1 ∨ j = 2 ∨ j = 3 by omega) with q | q | q <;> subst q
        · exact ⟨fun w => absurd w w1_q, fun e => absurd e (by decide)⟩
        · exact ⟨fun w => absurd w w2_q, fun e => absurd e (by decide)⟩
        · exact ⟨fun _ => rfl, fun _ => w3_q⟩
      · rw [zite_f w3_q] at h ⊢
        rcases Classical.em (isW T 4 a b) with w4_q | w4_q
        · rw [zite_t w4_q] at h ⊢
          rcases (show j = 1 ∨ j = 2 ∨ j = 3 ∨ j = 4 by omega) with q | q | q | q <;> subst q
          · exact ⟨fun w => absurd w w1_q, fun e => absurd e (by decide)⟩
          · exact ⟨fun w => absurd w w2_q, fun e => absurd e (by decide)⟩
          · exact ⟨fun w => absurd w w3_q, fun e => absurd e (by decide)⟩
          · exact ⟨fun _ => rfl, fun _ => w4_q⟩
        · rw [zite_f w4_q] at h ⊢
          rcases Classical.em (isW T 5 a b) with w5 | w5
          · rw [zite_t w5] at h ⊢
            rcases (show j = 1 ∨ j = 2 ∨ j = 3 ∨ j = 4 ∨ j = 5 by omega) with q | q | q | q | q <;> subst q
            · exact ⟨fun w => absurd w w1_q, fun e => absurd e (by decide)⟩
            · exact ⟨fun w => absurd w w2_q, fun e => absurd e (by decide)⟩
            · exact ⟨fun w => absurd w w3_q, fun e => absurd e (by decide)⟩
            · exact ⟨fun w => absurd w w4_q, fun e => absurd e (by decide)⟩
            · exact ⟨fun _ => rfl, fun _ => w5⟩
          · rw [zite_f w5] at h ⊢
            rcases Classical.em (isW T 6 a b) with w6_q | w6_q
            · rw [zite_t w6_q] at h ⊢
              rcases (show j = 1 ∨ j = 2 ∨ j = 3 ∨ j = 4 ∨ j = 5 ∨ j = 6 by omega) with q | q | q | q | q | q <;> subst q
              · exact ⟨fun w => absurd w w1_q, fun e => absurd e (by decide)⟩
              · exact ⟨fun w => absurd w w2_q, fun e => absurd e (by decide)⟩
              · exact ⟨fun w => absurd w w3_q, fun e => absurd e (by decide)⟩
              · exact ⟨fun w => absurd w w4_q, fun e => absurd e (by decide)⟩
              · exact ⟨fun w => absurd w w5, fun e => absurd e (by decide)⟩
              · exact ⟨fun _ => rfl, fun _ => w6_q⟩
            · rw [zite_f w6_q] at h ⊢
              rcases Classical.em (isW T 7 a b) with w7_q | w7_q
              · rw [zite_t w7_q] at h ⊢
                rcases (show j = 1 ∨ j = 2 ∨ j = 3 ∨ j = 4 ∨ j = 5 ∨ j = 6 ∨ j = 7 by omega) with q | q | q | q | q | q | q <;> subst q
                · exact ⟨fun w => absurd w w1_q, fun e => absurd e (by decide)⟩
                · exact ⟨fun w => absurd w w2_q, fun e => absurd e (by decide)⟩
                · exact ⟨fun w => absurd w w3_q, fun e => absurd e (by decide)⟩
                · exact ⟨fun w => absurd w w4_q, fun e => absurd e (by decide)⟩
                · exact ⟨fun w => absurd w w5, fun e => absurd e (by decide)⟩
                · exact ⟨fun w => absurd w w6_q, fun e => absurd e (by decide)⟩
                · exact ⟨fun _ => rfl, fun _ => w7_q⟩
              · rw [zite_f w7_q] at h ⊢
                rcases (show j = 1 ∨ j = 2 ∨ j = 3 ∨ j = 4 ∨ j = 5 ∨ j = 6 ∨ j = 7 by omega) with q | q | q | q | q | q | q <;> subst q
                · exact ⟨fun w => absurd w w1_q, fun e => absurd e (by decide)⟩
                · exact ⟨fun w => absurd w w2_q, fun e => absurd e (by decide)⟩
                · exact ⟨fun w => absurd w w3_q, fun e => absurd e (by decide)⟩
                · exact ⟨fun w => absurd w w4_q, fun e => absurd e (by decide)⟩
                · exact ⟨fun w => absurd w w5, fun e => absurd e (by decide)⟩
                · exact ⟨fun w => absurd w w6_q, fun e => absurd e (by decide)⟩
                · exact ⟨fun w => absurd w w7_q, fun e => absurd e (by decide)⟩
theorem knd_in {T : Int → Int} {a b : Int} : 0 ≤ knd T a b ∧ knd T a b ≤ 7 := by
  unfold knd zite
  repeat' split
  all_goals decide
theorem winW_n {G : GR} {k x y : Int} (h : k < 3 ∨ 6 < k) : winW G k x y = G := zfold_id _ _ (fun a H _ _ => zfold_id _ _ (fun b K _ _ => zitG_f (fun q => by unfold suit at q; omega)))
theorem c_Mo_readsWins {d : Nat} {kd : ZK} {m : ZM} {G : GR} {s : Int × Int} (hM_q : MS kd m) (hS_q : MoS m s) (hs0 : 0 ≤ s.2) (hR : heardIs m G) (ho : GOK G) {k x y : Int} (hx : 0 ≤ x ∧ x < G 0) (hy : 0 ≤ y ∧ y < G 1) : CtV (d + 3) M_Mo_readsWins [(2, 78), (0, zb (k = 3)), (0, zb (k = 4)), (0, zb (k = 5)), (0, zb (k = 6)), (0, x), (0, y)] kd m (fun m1_q => MoR m m1_q G (s, if s.2 = 0 then winW G k x y else G)) := by
  have hob := hM_q.o
  have h0 := ho.1
  have eP : (if s.2 = 0 then winW G k x y else G) = zfold (G 2).toNat (fun a H => zfold (G 3).toNat (fun b K => zitG (s.2 = 0 ∧ suit k a b) (gup K (29 + zS 0 x y a b) 1) K) H) G := by
    rcases Classical.em (s.2 = 0) with q | q
    · rw [if_pos q]
      refine zfold_cg _ _ (fun a H _ _ => zfold_cg _ _ (fun b K _ _ => ?_))
      rcases Classical.em (suit k a b) with z | z
      · rw [zitG_t z, zitG_t ⟨q, z⟩]
      · rw [zitG_f z, zitG_f (fun w => z w.2)]
    · rw [if_neg q]
      exact (zfold_id _ _ (fun a H _ _ => zfold_id _ _ (fun b K _ _ => zitG_f (fun w => q w.1)))).symm
  rw [eP]
  have r1_q : ∀ mm K, MoR m mm G (s, K) → mm 78 1 = 80 := fun mm K h => by rw [h.1.2 1 (by decide) (by decide) (by decide)]; exact hM_q.r1
  have qL0 := zfor2 (G 2) (fun (a : Int) (mm : ZM) (H : GR) => Ev (d + 3) M_Mo_readsWins 0 0 3 [(2, 78), (0, zb (k = 3)), (0, zb (k = 4)), (0, zb (k = 5)), (0, zb (k = 6)), (0, x), (0, y), (0, a), zJ, zJ] [] kd mm (zqV kd (fun m1_q => MoR m m1_q G (s, zfold (G 2).toNat (fun a H => zfold (G 3).toNat (fun b K => zitG (s.2 = 0 ∧ suit k a b) (gup K (29 + zS 0 x y a b) 1) K) H) G)))) (fun (a : Int) (mm : ZM) (H : GR) => 0 ≤ a ∧ MoR m mm G (s, H) ∧ H = zfold a.toNat (fun a H => zfold (G 3).toNat (fun b K => zitG (s.2 = 0 ∧ suit k a b) (gup K (29 + zS 0 x y a b) 1) K) H) G) (by
    intro a mm H hb0 hI0 qKL0
    obtain ⟨ha0, hD, hH⟩ := hI0
    have qL1 := zfor2 (G 3) (fun (b : Int) (mm : ZM) (K : GR) => Ev (d + 3) M_Mo_readsWins 0 0 17 [(2, 78), (0, zb (k = 3)), (0, zb (k = 4)), (0, zb (k = 5)), (0, zb (k = 6)), (0, x), (0, y), (0, a), (0, b), zJ] [] kd mm (zqV kd (fun m1_q => MoR m m1_q G (s, zfold (G 2).toNat (fun a H => zfold (G 3).toNat (fun b K => zitG (s.2 = 0 ∧ suit k a b) (gup K (29 + zS 0 x y a b) 1) K) H) G)))) (fun (b : Int) (mm : ZM) (K : GR) => (0 ≤ b ∧ a < G 2) ∧ MoR m mm G (s, K) ∧ K = zfold b.toNat (fun b K => zitG (s.2 = 0 ∧ suit k a b) (gup K (29 + zS 0 x y a b) 1) K) H) (by
      intro b mm K hb1 hI1 qKL1
      obtain ⟨⟨hb0, hal⟩, hD, hK_q⟩ := hI1
      have e1_q := r1_q mm K hD
      have e3_q : mm 80 3 = G 3 := by rw [hD.2.2.1 3 (by decide) (by decide)]; exact hD.2.2.2.2.2.2.2
      refine T_Mo_readsWins_17 ?_
      rw [e1_q, e3_q]
      refine ⟨hob, ⟨829, hM_q.k80, by decide, by decide⟩, fun qc_1 => ?_, fun qc_1 => ?_⟩
      · rw [iw_s (x := a + 1) (by omega) (by omega)]
        exact qKL0 mm K hal ⟨by omega, hD, by rw [zfold_1 ha0, ← hH, hK_q, show b = G 3 by omega]⟩
      · have hbl : b < G 3 := by omega
        have k85 : ∀ v : Int, v = zb (suit k a b) → Ev (d + 3) M_Mo_readsWins 0 0 85 [(2, 78), (0, zb (k = 3)), (0, zb (k = 4)), (0, zb (k = 5)), (0, zb (k = 6)), (0, x), (0, y), (0, a), (0, b), zJ] [(0, v)] kd mm (zqV kd (fun m1_q => MoR m m1_q G (s, zfold (G 2).toNat (fun a H => zfold (G 3).toNat (fun b K => zitG (s.2 = 0 ∧ suit k a b) (gup K (29 + zS 0 x y a b) 1) K) H) G))) := fun v hv => by
          refine T_Mo_readsWins_85 ?_
          rw [hv, iw_s (x := b + 1) (by omega) (by omega)]
          refine ⟨fun qc_2 => ?_, fun qc_2 => ?_⟩
          · exact qKL1 mm K hbl ⟨⟨by omega, hal⟩, hD, by rw [zfold_1 hb0, ← hK_q, zitG_f (fun w => zb_eq0.1 qc_2 w.2)]⟩
          · refine ⟨hob, _, c_Mo_isRight hob hD.2.1 hs0, ?_⟩
            rintro _ _ ⟨rfl, rfl⟩
            refine ⟨fun qc_3 => ?_, fun qc_3 => ?_⟩
            · exact qKL1 mm K hbl ⟨⟨by omega, hal⟩, hD, by rw [zfold_1 hb0, ← hK_q, zitG_f (fun w => zb_eq0.1 qc_3 w.1)]⟩
            · refine ⟨hob, _, c_Mo_fourOf (by omega) (by omega) (by omega) (by omega), ?_⟩
              rintro _ _ ⟨rfl, rfl⟩
              rw [e1_q, iw_s (x := 29 + (4 * (4 * (5 * x + y) + a) + b)) (by omega) (by omega)]
              refine ⟨⟨829, hM_q.k80, by omega, by omega⟩, ?_⟩
              have hp := hD.putV hx hy ⟨ha0, hal⟩ ⟨hb0, hbl⟩ (v := 1) (by decide)
              rw [zS0_v] at hp
              exact qKL1 _ _ hbl ⟨⟨by omega, hal⟩, hp, by rw [zfold_1 hb0, ← hK_q, zitG_t ⟨zb_ne0.1 qc_3, zb_ne0.1 qc_2⟩, zS0_v]⟩
        have k68 : ¬ (k = 3 ∧ (a + b) % 2 = 0) → ¬ (k = 4 ∧ (a + b) % 2 = 1) → ¬ (k = 5 ∧ a = b) → Ev (d + 3) M_Mo_readsWins 0 0 68 [(2, 78), (0, zb (k = 3)), (0, zb (k = 4)), (0, zb (k = 5)), (0, zb (k = 6)), (0, x), (0, y), (0, a), (0, b), zJ] [] kd mm (zqV kd (fun m1_q => MoR m m1_q G (s, zfold (G 2).toNat (fun a H => zfold (G 3).toNat (fun b K => zitG (s.2 = 0 ∧ suit k a b) (gup K (29 + zS 0 x y a b) 1) K) H) G))) := fun n1_q n2_q n3_q => by
          refine T_Mo_readsWins_68 ⟨fun qc_2 => k85 0 ?_, fun qc_2 => ⟨fun qc_3 => k85 0 ?_, fun qc_3 => k85 1 ?_⟩⟩
          · have := zb_eq0.1 qc_2
            exact (zbF (by unfold suit; omega))
          · exact (zbF (by unfold suit; omega))
          · have := zb_ne0.1 qc_2
            exact (zbT (by unfold suit; omega))
        have k57 : ¬ (k = 3 ∧ (a + b) % 2 = 0) → ¬ (k = 4 ∧ (a + b) % 2 = 1) → Ev (d + 3) M_Mo_readsWins 0 0 57 [(2, 78), (0, zb (k = 3)), (0, zb (k = 4)), (0, zb (k = 5)), (0, zb (k = 6)), (0, x), (0, y), (0, a), (0, b), zJ] [] kd mm (zqV kd (fun m1_q => MoR m m1_q G (s, zfold (G 2).toNat (fun a H => zfold (G 3).toNat (fun b K => zitG (s.2 = 0 ∧ suit k a b) (gup K (29 + zS 0 x y a b) 1) K) H) G))) := fun n1_q n2_q => by
          refine T_Mo_readsWins_57 ⟨fun qc_2 => k68 n1_q n2_q ?_, fun qc_2 => ⟨fun qc_3 => k85 1 ?_, fun qc_3 => k68 n1_q n2_q ?_⟩⟩
          · have := zb_eq0.1 qc_2
            omega
          · have := zb_ne0.1 qc_2
            exact (zbT (by unfold suit; omega))
          · omega
        have k42 : ¬ (k = 3 ∧ (a + b) % 2 = 0) → Ev (d + 3) M_Mo_readsWins 0 0 42 [(2, 78), (0, zb (k = 3)), (0, zb (k = 4)), (0, zb (k = 5)), (0, zb (k = 6)), (0, x), (0, y), (0, a), (0, b), zJ] [] kd mm (zqV kd (fun m1_q => MoR m m1_q G (s, zfold (G 2).toNat (fun a H => zfold (G 3).toNat (fun b K => zitG (s.2 = 0 ∧ suit k a b) (gup K (29 + zS 0 x y a b) 1) K) H) G))) := fun n1_q => by
          refine T_Mo_readsWins_42 ?_
          rw [iw_s (x := a + b) (by omega) (by omega), tmod2 (by omega)]
          refine ⟨fun qc_2 => k57 n1_q ?_, fun qc_2 => ⟨fun qc_3 => k85 1 ?_, fun qc_3 => k57 n1_q ?_⟩⟩
          · have := zb_eq0.1 qc_2
            omega
          · have := zb_ne0.1 qc_2
            exact (zbT (by unfold suit; omega))
          · omega
        rw [iw_s (x := a + b) (by omega) (by omega), tmod2 (by omega)]
        refine ⟨fun qc_2 => k42 ?_, fun qc_2 => ⟨fun qc_3 => k85 1 ?_, fun qc_3 => k42 ?_⟩⟩
        · have := zb_eq0.1 qc_2
          omega
        · have := zb_ne0.1 qc_2
          exact (zbT (by unfold suit; omega))
        · omega)
    have e1_q := r1_q mm H hD
    have e2_q : mm 80 2 = G 2 := by rw [hD.2.2.1 2 (by decide) (by decide)]; exact hD.2.2.2.2.2.2.1
    refine T_Mo_readsWins_3 ?_
    rw [e1_q, e2_q]
    refine ⟨hob, ⟨829, hM_q.k80, by decide, by decide⟩, fun qc_1 => ?_, fun qc_1 => ?_⟩
    · rw [hH, show a = G 2 by omega] at hD
      exact hD
    · exact qL1 0 mm H (by omega) ⟨⟨by decide, by omega⟩, hD, rfl⟩)
  refine S_Mo_readsWins ?_
  exact qL0 0 m G (by omega) ⟨by decide, (MoQ.rf hS_q).r hR ho, rfl⟩
