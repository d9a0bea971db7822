/-! THE MODEL, thirtieth: tell -/
def FrR (m m1_q : ZM) : Prop := (∀ c, c ≠ 78 → c ≠ 80 → m1_q c = m c) ∧ ∀ k, k ≠ 9 → k ≠ 10 → k ≠ 11 → m1_q 78 k = m 78 k
theorem FrR.q {m m1_q m2_q : ZM} {s : Int × Int} (h : FrR m m1_q) (k : MoQ m1_q m2_q s) : FrR m m2_q := ⟨fun c qc_1 qc_2 => by rw [k.1.1 c qc_1, h.1 c qc_1 qc_2], fun c qc_1 qc_2 qc_3 => by rw [k.1.2 c qc_1 qc_2 qc_3, h.2 c qc_1 qc_2 qc_3]⟩
theorem FrR.r {m m1_q m2_q : ZM} {G : GR} {r : PS} (h : FrR m m1_q) (k : MoR m1_q m2_q G r) : FrR m m2_q := ⟨fun c qc_1 qc_2 => by rw [k.1.1 c qc_1 qc_2, h.1 c qc_1 qc_2], fun c qc_1 qc_2 qc_3 => by rw [k.1.2 c qc_1 qc_2 qc_3, h.2 c qc_1 qc_2 qc_3]⟩
theorem FrR.z {m m1_q : ZM} {k v : Int} (h : FrR m m1_q) : FrR m (zup m1_q 80 k v) := ⟨fun c qc_1 qc_2 => by rw [zup_off qc_2, h.1 c qc_1 qc_2], fun c qc_1 qc_2 qc_3 => by rw [zup_off (by decide), h.2 c qc_1 qc_2 qc_3]⟩
theorem MoS.z {m : ZM} {s : Int × Int} {k v : Int} (h : MoS m s) : MoS (zup m 80 k v) s := by
  unfold MoS
  rw [zup_off (show (78 : Int) ≠ 80 by decide)]
  exact h
theorem MoT.f {kd : ZK} {m m1_q : ZM} {T : Int → Int} {n : Int} (h : MoT kd m T n) (k : FrR m m1_q) : MoT kd m1_q T n := by
  unfold MoT
  rw [k.1 85 (by decide) (by decide), k.2 8 (by decide) (by decide) (by decide)]
  refine ⟨⟨h.1.1, ?_⟩, h.2⟩
  unfold MR
  rw [k.2 0 (by decide) (by decide) (by decide), k.2 1 (by decide) (by decide) (by decide), k.2 2 (by decide) (by decide) (by decide), k.2 3 (by decide) (by decide) (by decide), k.2 4 (by decide) (by decide) (by decide), k.2 5 (by decide) (by decide) (by decide), k.2 7 (by decide) (by decide) (by decide), k.2 12 (by decide) (by decide) (by decide), k.2 13 (by decide) (by decide) (by decide), k.2 15 (by decide) (by decide) (by decide), k.2 17 (by decide) (by decide) (by decide), k.2 18 (by decide) (by decide) (by decide), k.2 19 (by decide) (by decide) (by decide), k.2 20 (by decide) (by decide) (by decide), k.2 21 (by decide) (by decide) (by decide), k.2 22 (by decide) (by decide) (by decide)]
  exact h.1.2
theorem heardIs.q {m m1_q : ZM} {G : GR} {s : Int × Int} (h : heardIs m G) (k : MoQ m m1_q s) : heardIs m1_q G := fun i i0_q i1_q => by rw [k.1.1 80 (by decide)]; exact h i i0_q i1_q
theorem heardIs.z {m : ZM} {G : GR} {k v : Int} (h : heardIs m G) : heardIs (zup m 80 k v) (gup G k v) := fun i i0_q i1_q => by
  rw [zup_at]
  unfold gup
  split
  · rfl
  · exact h i i0_q i1_q
theorem heardIs.e {m : ZM} {G K : GR} (h : heardIs m G) (k : ∀ i, 0 ≤ i → i < 829 → G i = K i) : heardIs m K := fun i i0_q i1_q => by rw [h i i0_q i1_q, k i i0_q i1_q]
/-- a game as it is begun, of whose weights some are told -/
noncomputable def stP (q0 q1_q a0_q a1_q : Int) (C : Int → Prop) : GR := fun i => if i = 0 then q0 else if i = 1 then q1_q else if i = 2 then a0_q else if i = 3 then a1_q else zb (C i)
theorem stP_4 {q0 q1_q a0_q a1_q : Int} {C : Int → Prop} {i : Int} (h : 4 ≤ i) : stP q0 q1_q a0_q a1_q C i = zb (C i) := by
  unfold stP
  rw [if_neg (by omega), if_neg (by omega), if_neg (by omega), if_neg (by omega)]
theorem stP_cg {q0 q1_q a0_q a1_q : Int} {C D : Int → Prop} {i : Int} (h : 4 ≤ i → (C i ↔ D i)) (h0 : 0 ≤ i) : stP q0 q1_q a0_q a1_q C i = stP q0 q1_q a0_q a1_q D i := by
  rcases (show i = 0 ∨ i = 1 ∨ i = 2 ∨ i = 3 ∨ 4 ≤ i by omega) with e | e | e | e | e
  · subst e; rfl
  · subst e; rfl
  · subst e; rfl
  · subst e; rfl
  · rw [stP_4 e, stP_4 e, zb_congr (h e)]
theorem zite_0 {P : Prop} : zite P 0 0 = 0 := by
  rcases Classical.em P with h | h
  · exact zite_t h
  · exact zite_f h
def stC (q1_q x y i : Int) : Prop := i < 29 ∧ ((i - 4) / 5 < x ∨ ((i - 4) / 5 = x ∧ (i - 4) % 5 < y)) ∧ (i - 4) % 5 < q1_q
theorem opStart_stP {q0 q1_q a0_q a1_q i : Int} (h0 : 0 ≤ i) (hq : q0 ≤ 5) : stP q0 q1_q a0_q a1_q (stC q1_q q0 0) i = opStart q0 q1_q a0_q a1_q i := by
  rcases (show i = 0 ∨ i = 1 ∨ i = 2 ∨ i = 3 ∨ 4 ≤ i by omega) with e | e | e | e | e
  · subst e; rfl
  · subst e; rfl
  · subst e; rfl
  · subst e; rfl
  · rw [stP_4 e, opStart, mkG, if_neg (by omega), if_neg (by omega), if_neg (by omega), if_neg (by omega)]
    rcases Classical.em (i < 29) with k | k
    · rw [if_pos k]
      unfold cutW
      show zb _ = zb _
      exact zb_congr (by unfold stC; omega)
    · rw [if_neg k]
      unfold cutV
      rw [zite_0, zite_0, zb_f (by unfold stC; omega)]
      split <;> rfl
theorem MB.t {kd : ZK} {m : ZM} {G : GR} {P : Int → GR} {s : Int} {S : Int → GR} {u : Int} {T : Int → Int} {n : Int} (hB_q : MB kd m G P s S u T n) (hS_q : SO G s u T n) : MoT kd m T n := ⟨hB_q.1, hB_q.2.2.2.2.1, hS_q.2.2.2.1, fun i i0_q i1_q => ⟨hB_q.2.2.2.2.2 i i0_q i1_q, hS_q.2.2.2.2 i i0_q i1_q⟩⟩
/-- the end of tell -/
theorem k204_Mo {d : Nat} {kd : ZK} {m : ZM} {G : GR} {P : Int → GR} {s : Int} {S : Int → GR} {u : Int} {T : Int → Int} {n : Int} (hB_q : MB kd m G P s S u T n) (hS_q : SO G s u T n) {mm : ZM} {a f : Int} {K : GR} (hF : FrR m mm) (hP : MoS mm (a, f)) (h0 : 0 ≤ f) (hT_q : isTl T n f K) (hK_q : f = 0 → heardIs mm K ∧ 0 < K 0) : Ev (d + 7) M_Mo_tell 0 0 204 [(2, 78), zJ, zJ] [] kd mm (zqI kd (fun zz m1_q => ∃ st2_q, rTell (G, P, s, S, u, T, n) zz st2_q ∧ (st2_q.1 = G ∨ 0 < st2_q.1 0) ∧ MJ kd m m1_q st2_q)) := by
  have hM_q : MS kd mm := ((hB_q.t hS_q).f hF).1
  have hM1 : MS kd (zup mm 78 8 0) := hM_q.up (by omega)
  have hP1 : MoS (zup mm 78 8 0) (a, f) := ⟨by rw [zup_nj (by decide)]; exact hP.1, by rw [zup_nj (by decide)]; exact hP.2⟩
  refine T_Mo_tell_204 ?_
  refine ⟨hM_q.o, hM_q.o, _, c_Mo_isRight hM_q.o hP1 h0, ?_⟩
  rintro _ _ ⟨rfl, rfl⟩
  refine ⟨fun qc_1 => ?_, fun qc_1 => ?_⟩
  · have hf : f = 0 := zb_ne0.1 qc_1
    have hR := (hK_q hf).1
    rw [hM1.r1, hM1.r0]
    refine ⟨hM_q.o, hM_q.o, _, c_Mo_moves hM_q.k80 hM_q.k79 (by omega) (by omega) (Or.inl (by decide)), ?_⟩
    rintro m6_q ⟨f6_q, a6, b6⟩
    have e78 : ∀ k, k ≠ 6 → (zup m6_q 78 6 0) 78 k = (zup mm 78 8 0) 78 k := fun k hk => by rw [zup_nj hk, f6_q 78 (by decide)]
    have e0_q : (zup m6_q 78 6 0) 78 0 = 79 := by rw [e78 0 (by decide)]; exact hM1.r0
    have e79 : ∀ i, 0 ≤ i → i < 829 → (zup m6_q 78 6 0) 79 i = K i := fun i i0_q i1_q => by
      rw [zup_off (by decide)]
      have z := a6 i i0_q i1_q
      rw [show 829 * 0 + i = i by omega] at z
      rw [z, zup_off (by decide)]
      exact hR i i0_q i1_q
    have ec : ∀ c, c ≠ 78 → c ≠ 79 → c ≠ 80 → (zup m6_q 78 6 0) c = m c := fun c qc_1 qc_2 qc_3 => by rw [zup_off qc_1, f6_q c qc_2, zup_off qc_1]; exact hF.1 c qc_1 qc_3
    rw [e0_q]
    refine ⟨hM_q.o, hM_q.o, ⟨829, hM_q.k79, by decide, by decide⟩, _, ⟨f, K, hT_q, fun _ => ⟨e79 0 (by decide) (by decide), rfl⟩, fun e => absurd hf e⟩, Or.inr (hK_q hf).2, ?_, fun c hc_q => ec c (by omega) (by omega) (by omega)⟩
    show MB kd (zup m6_q 78 6 0) K P 0 S u T 0
    unfold MB
    rw [ec 83 (by decide) (by decide) (by decide), ec 84 (by decide) (by decide) (by decide), e78 8 (by decide), zup_self, zup_self]
    exact ⟨(hM1.fr (m1_q := m6_q) (f6_q 78 (by decide))).up (Or.inl rfl), e79, ⟨rfl, fun k i k0_q k1_q => absurd k1_q (by omega)⟩, hB_q.2.2.2.1, rfl, fun i i0_q i1_q => absurd i1_q (by omega)⟩
  · have hf : ¬ f = 0 := zb_eq0.1 (Classical.not_not.1 qc_1)
    rw [hP1.2, if_neg hf]
    refine ⟨hM_q.o, _, ⟨f, K, hT_q, fun e => absurd e hf, fun _ => ⟨rfl, rfl⟩⟩, Or.inl rfl, ?_, fun c hc_q => by rw [zup_off (by omega)]; exact hF.1 c (by omega) (by omega)⟩
    show MB kd (zup mm 78 8 0) G P s S u T 0
    have ec : ∀ c, c ≠ 78 → c ≠ 80 → (zup mm 78 8 0) c = m c := fun c qc_1 qc_2 => by rw [zup_off qc_1]; exact hF.1 c qc_1 qc_2
    unfold MB
    rw [ec 79 (by decide) (by decide), ec 82 (by decide) (by decide), ec 83 (by decide) (by decide), ec 84 (by decide) (by decide), zup_nj (show (6 : Int) ≠ 8 by decide), hF.2 6 (by decide) (by decide) (by decide), zup_self]
    exact ⟨hM1, hB_q.2.1, hB_q.2.2.1, hB_q.2.2.2.1, rfl, fun i i0_q i1_q => absurd i1_q (by omega)⟩
theorem k180_Mo {d : Nat} {kd : ZK} {m : ZM} {G : GR} {P : Int → GR} {s : Int} {S : Int → GR} {u : Int} {T : Int → Int} {n : Int} (hB_q : MB kd m G P s S u T n) (hS_q : SO G s u T n) {mm : ZM} {a f : Int} {K : GR} (hF : FrR m mm) (hP : MoS mm (a, f)) (h0 : 0 ≤ f) (ha_q : 0 ≤ a ∧ a ≤ n) (h1 : f ≠ 0 → isTl T n f K) (h2 : f = 0 → rn (pB_ T) n a = n → isTl T n 0 K) (h3 : f = 0 → rn (pB_ T) n a < n → isTl T n (8 * rn (pB_ T) n a + 1) K) (hK_q : heardIs mm K) (ht0 : 0 < K 0) : Ev (d + 7) M_Mo_tell 0 0 180 [(2, 78), zJ, zJ] [] kd mm (zqI kd (fun zz m1_q => ∃ st2_q, rTell (G, P, s, S, u, T, n) zz st2_q ∧ (st2_q.1 = G ∨ 0 < st2_q.1 0) ∧ MJ kd m m1_q st2_q)) := by
  have hT_q := (hB_q.t hS_q).f hF
  have hob := hT_q.1.o
  have hn := hT_q.2.2.1
  have hr := rn_in (P := pB_ T) ha_q.2
  refine T_Mo_tell_180 ?_
  refine ⟨hob, _, c_Mo_isRight hob hP h0, ?_⟩
  rintro _ _ ⟨rfl, rfl⟩
  refine ⟨fun qc_1 => ?_, fun qc_1 => ?_⟩
  · have hf : ¬ f = 0 := zb_eq0.1 qc_1
    exact k204_Mo hB_q hS_q hF hP h0 (h1 hf) (fun e => absurd e hf)
  · have hf : f = 0 := zb_ne0.1 qc_1
    subst hf
    refine ⟨hob, _, c_Mo_next hT_q hP ha_q, ?_⟩
    rintro x5_q m6_q ⟨rfl, q6_q⟩
    have hF6 := hF.q q6_q
    refine ⟨fun qc_2 => ?_, fun qc_2 => ?_⟩
    · have hl : ¬ rn (pB_ T) n a < n := fun hl => by
        have hv := (hT_q.2.2.2 _ (by omega) hl).2
        rw [show cur T n (rn (pB_ T) n a) = T (rn (pB_ T) n a) from if_pos hl] at qc_2
        omega
      exact k204_Mo hB_q hS_q hF6 q6_q.2 (Int.le_refl _) (h2 rfl (by omega)) (fun _ => ⟨hK_q.q q6_q, ht0⟩)
    · have hl : rn (pB_ T) n a < n := Classical.byContradiction fun hl => qc_2 (if_neg hl)
      rw [q6_q.2.1]
      refine ⟨hob, hob, _, c_Mo_fails hob q6_q.2 (Int.le_refl 0) (by decide) (show 0 ≤ rn (pB_ T) n a ∧ rn (pB_ T) n a ≤ 400 by omega), ?_⟩
      rintro m9_q q9_q
      rw [if_pos rfl] at q9_q
      exact k204_Mo hB_q hS_q (hF6.q q9_q) q9_q.2 (show 0 ≤ 8 * rn (pB_ T) n a + 1 by omega) (h3 rfl hl) (fun e => absurd e (show ¬ 8 * rn (pB_ T) n a + 1 = 0 by omega))
theorem k147_Mo {d : Nat} {kd : ZK} {m : ZM} {G : GR} {P : Int → GR} {s : Int} {S : Int → GR} {u : Int} {T : Int → Int} {n : Int} (hB_q : MB kd m G P s S u T n) (hS_q : SO G s u T n) {mm : ZM} {a : Int} {K : GR} (hF : FrR m mm) (hP : MoS mm (a, 0)) (ha_q : 0 ≤ a ∧ a ≤ n) (hh : isHd T n) (h4 : (pH4 T n).2.2 = 0) (ea : a = (pH4 T n).2.1) (hK_q : heardIs mm (pHG T n)) (ho : GOK (pHG T n)) (ht : 0 < pHG T n 0) : Ev (d + 7) M_Mo_tell 0 0 147 [(2, 78), zJ, zJ] [] kd mm (zqI kd (fun zz m1_q => ∃ st2_q, rTell (G, P, s, S, u, T, n) zz st2_q ∧ (st2_q.1 = G ∨ 0 < st2_q.1 0) ∧ MJ kd m m1_q st2_q)) := by
  have hTm := hB_q.t hS_q
  have hob := hTm.1.o
  have hn := hTm.2.2.1
  obtain ⟨qc_0, hc0⟩ : ∃ c : PS, c = ((rn (pB_ T) n (pH4 T n).2.1, 0), pHG T n) := ⟨_, rfl⟩
  have qL0 := zfor2 400 (fun (i : Int) (mm : ZM) (a : Int) => Ev (d + 7) M_Mo_tell 0 0 147 [(2, 78), zJ, zJ] [] kd mm (zqI kd (fun zz m1_q => ∃ st2_q, rTell (G, P, s, S, u, T, n) zz st2_q ∧ (st2_q.1 = G ∨ 0 < st2_q.1 0) ∧ MJ kd m m1_q st2_q))) (fun (i : Int) (mm : ZM) (a : Int) => 0 ≤ i ∧ FrR m mm ∧ (0 ≤ a ∧ a ≤ n) ∧ ∃ c : PS, pIt T n i.toNat qc_0 = c ∧ (∀ j, j < i.toNat → pCo n (pIt T n j qc_0)) ∧ MoS mm (a, c.1.2) ∧ c.1.1 = rn (pB_ T) n a ∧ 0 ≤ c.1.2 ∧ (c.1.2 = 0 → i ≤ c.1.1) ∧ heardIs mm c.2 ∧ GOK c.2 ∧ 0 < c.2 0) (by
    intro i mm a hi_q hI0 qKL0
    obtain ⟨hi0, hF, ha_q, c, hc_q, hco, hP, hca, hc2, hci, hK_q, ho, ht⟩ := hI0
    have hT_q := hTm.f hF
    have hr := rn_in (P := pB_ T) ha_q.2
    have htt := ho.2.1 ht
    have hfin : ¬ pCo n c → isTl T n c.1.2 c.2 := fun h => Or.inr (Or.inr ⟨hh, h4, c.1.1, i.toNat, by rw [← hc0]; exact hc_q, h, by rw [← hc0]; exact hco⟩)
    have hco1 : pCo n c → ∀ j, j < (i + 1).toNat → pCo n (pIt T n j qc_0) := fun h j hj => by
      rcases (show j < i.toNat ∨ j = i.toNat by omega) with q | q
      · exact hco j q
      · rw [q, hc_q]; exact h
    have hst : pIt T n (i + 1).toNat qc_0 = pSt T n c := by rw [show (i + 1).toNat = i.toNat + 1 by omega, pIt, hc_q]
    refine T_Mo_tell_147 ?_
    refine ⟨hob, _, c_Mo_isRight hob hP hc2, ?_⟩
    rintro _ _ ⟨rfl, rfl⟩
    refine ⟨fun qc_1 => ?_, fun qc_1 => ?_⟩
    · have hf : ¬ c.1.2 = 0 := zb_eq0.1 qc_1
      exact k180_Mo hB_q hS_q hF hP hc2 ha_q (fun _ => hfin (fun h => hf h.1)) (fun e => absurd e hf) (fun e => absurd e hf) hK_q ht
    · have hf : c.1.2 = 0 := zb_ne0.1 qc_1
      rw [hf] at hP
      have hci := hci hf
      refine ⟨hob, _, c_Mo_next hT_q hP ha_q, ?_⟩
      rw [show rn (pB_ T) n (a, (0 : Int)).1 = c.1.1 from hca.symm]
      rintro x5_q m6_q ⟨rfl, q6_q⟩
      have hF6 := hF.q q6_q
      rw [← hca] at hr
      have hrr : rn (pB_ T) n c.1.1 = c.1.1 := by rw [hca]; exact rn_rn
      refine ⟨fun qc_2 => ?_, fun qc_2 => ?_⟩
      · refine k180_Mo hB_q hS_q hF6 q6_q.2 (Int.le_refl _) (show 0 ≤ c.1.1 ∧ c.1.1 ≤ n by omega) (fun e => absurd rfl e) (fun _ e => ?_) (fun _ e => ?_) (hK_q.q q6_q) ht
        · rw [hrr] at e
          have := hfin (fun h => by have := h.2; omega)
          rw [hf] at this
          exact this
        · rw [hrr] at e ⊢
          have hne : T c.1.1 ≠ 59 := fun h => qc_2 (by rw [show cur T n c.1.1 = T c.1.1 from if_pos e]; exact h)
          have hpt := pPt_n (n := n) (G := c.2) hne
          have hs : pSt T n c = ((rn (pB_ T) n c.1.1, 8 * c.1.1 + 1), c.2) := by
            unfold pSt
            rw [hpt]
          exact Or.inr (Or.inr ⟨hh, h4, rn (pB_ T) n c.1.1, (i + 1).toNat, by rw [← hc0, hst, hs], fun h => by have h9 : 8 * c.1.1 + 1 = 0 := h.1; omega, by rw [← hc0]; exact hco1 ⟨hf, e⟩⟩)
      · have h59 := Classical.not_not.1 qc_2
        have hl : c.1.1 < n := Classical.byContradiction fun hl => by
          rw [show cur T n c.1.1 = -1 from if_neg hl] at h59
          omega
        rw [show cur T n c.1.1 = T c.1.1 from if_pos hl] at h59
        have q9_q := q6_q.at (v := c.1.1 + 1)
        have hpb : pPt T n c.2 c.1.1 = pBd T n c.2 (c.1.1 + 1) := if_pos h59
        have hpi := pPt_in (T := T) (n := n) (a := c.1.1) (G := c.2) ⟨by omega, hl⟩ ⟨by omega, by omega, by omega, by omega⟩
        rw [q6_q.2.1, iw_s (x := (c.1.1, (0 : Int)).1 + 1) (by try simp only []; omega) (by try simp only []; omega)]
        refine ⟨hob, hob, hob, _, c_Mo_readsPart (hT_q.q q9_q) q9_q.2 (hK_q.q q9_q) ho ht (show 0 ≤ c.1.1 + 1 ∧ c.1.1 + 1 ≤ n by omega), ?_⟩
        rw [← hpb]
        rintro m12_q q12_q
        exact qKL0 _ (pPt T n c.2 c.1.1).1.1 (by omega) ⟨by omega, (hF.q q9_q).r q12_q, hpi.1, pSt T n c, hst, hco1 ⟨hf, hl⟩, q12_q.2.1, rfl, hpi.2.1, fun e => by
          have z1 := hpi.2.2 e
          have z2 := rn_in (P := pB_ T) (n := n) hpi.1.2
          show i + 1 ≤ rn (pB_ T) n (pPt T n c.2 c.1.1).1.1
          omega, q12_q.2.2.1, q12_q.2.2.2.1, by
          show 0 < (pPt T n c.2 c.1.1).2 0
          rw [q12_q.2.2.2.2.1]
          exact ht⟩)
  exact qL0 0 mm a (by decide) ⟨by decide, hF, ha_q, qc_0, rfl, fun j hj => absurd hj (by simp), by rw [hc0]; exact hP, by rw [hc0, ea], by rw [hc0]; exact Int.le_refl _, by
    rw [hc0]
    intro _
    show (0 : Int) ≤ rn (pB_ T) n (pH4 T n).2.1
    rw [← ea]
    have z := rn_in (P := pB_ T) ha_q.2
    omega, by rw [hc0]; exact hK_q, by rw [hc0]; exact ho, by rw [hc0]; exact ht⟩
theorem k100_Mo {d : Nat} {kd : ZK} {m : ZM} {G : GR} {P : Int → GR} {s : Int} {S : Int → GR} {u : Int} {T : Int → Int} {n : Int} (hB_q : MB kd m G P s S u T n) (hS_q : SO G s u T n) {mm : ZM} {q : Int × Int} {q0 q1_q a0_q a1_q : Int} (hF : FrR m mm) (hP : MoS mm q) (b0 : 1 ≤ q0 ∧ q0 ≤ 5) (b1 : 1 ≤ q1_q ∧ q1_q ≤ 5) (hR : heardIs mm (stP q0 q1_q a0_q a1_q (stC q1_q 0 0))) (hK_q : ∀ mx, FrR m mx → MoS mx q → heardIs mx (opStart q0 q1_q a0_q a1_q) → Ev (d + 7) M_Mo_tell 0 0 147 [(2, 78), zJ, zJ] [] kd mx (zqI kd (fun zz m1_q => ∃ st2_q, rTell (G, P, s, S, u, T, n) zz st2_q ∧ (st2_q.1 = G ∨ 0 < st2_q.1 0) ∧ MJ kd m m1_q st2_q))) : Ev (d + 7) M_Mo_tell 0 0 100 [(2, 78), (0, 0), zJ] [] kd mm (zqI kd (fun zz m1_q => ∃ st2_q, rTell (G, P, s, S, u, T, n) zz st2_q ∧ (st2_q.1 = G ∨ 0 < st2_q.1 0) ∧ MJ kd m m1_q st2_q)) := by
  have hM_q := (hB_q.t hS_q).1
  have hob := hM_q.o
  have qL0 := zfor1 q0 (fun (x : Int) (mm : ZM) => Ev (d + 7) M_Mo_tell 0 0 100 [(2, 78), (0, x), zJ] [] kd mm (zqI kd (fun zz m1_q => ∃ st2_q, rTell (G, P, s, S, u, T, n) zz st2_q ∧ (st2_q.1 = G ∨ 0 < st2_q.1 0) ∧ MJ kd m m1_q st2_q))) (fun (x : Int) (mm : ZM) => 0 ≤ x ∧ FrR m mm ∧ MoS mm q ∧ heardIs mm (stP q0 q1_q a0_q a1_q (stC q1_q x 0))) (by
    intro x mm hx hI0 qKL0
    obtain ⟨hx0, hF, hP, hR⟩ := hI0
    have qL1 := zfor1 q1_q (fun (y : Int) (mm : ZM) => Ev (d + 7) M_Mo_tell 0 0 112 [(2, 78), (0, x), (0, y)] [] kd mm (zqI kd (fun zz m1_q => ∃ st2_q, rTell (G, P, s, S, u, T, n) zz st2_q ∧ (st2_q.1 = G ∨ 0 < st2_q.1 0) ∧ MJ kd m m1_q st2_q))) (fun (y : Int) (mm : ZM) => (0 ≤ y ∧ x < q0) ∧ FrR m mm ∧ MoS mm q ∧ heardIs mm (stP q0 q1_q a0_q a1_q (stC q1_q x y))) (by
      intro y mm hy hI1 qKL1
      obtain ⟨⟨hy0, hxl⟩, hF, hP, hR⟩ := hI1
      have r1_q : mm 78 1 = 80 := by rw [hF.2 1 (by decide) (by decide) (by decide)]; exact hM_q.r1
      have e1_q : mm 80 1 = q1_q := hR 1 (by decide) (by decide)
      refine T_Mo_tell_112 ?_
      rw [r1_q, e1_q]
      refine ⟨hob, ⟨829, hM_q.k80, by decide, by decide⟩, fun qc_1 => ?_, fun qc_1 => ?_⟩
      · rw [iw_s (x := x + 1) (by omega) (by omega)]
        exact qKL0 mm hxl ⟨by omega, hF, hP, hR.e (fun i i0_q i1_q => stP_cg (fun i4_q => by unfold stC; omega) i0_q)⟩
      · refine ⟨hob, _, c_Mo_twoOf (by omega) (by omega), ?_⟩
        rintro _ _ ⟨rfl, rfl⟩
        rw [iw_s (x := 4 + (5 * x + y)) (by omega) (by omega), iw_s (x := y + 1) (by omega) (by omega)]
        refine ⟨⟨829, hM_q.k80, by omega, by omega⟩, qKL1 _ (by omega) ⟨⟨by omega, hxl⟩, hF.z, hP.z, hR.z.e (fun i i0_q i1_q => ?_)⟩⟩
        rcases Classical.em (i = 4 + (5 * x + y)) with e | e
        · rw [e, gup_at, stP_4 (by omega), zb_t (by unfold stC; omega)]
        · rw [gup_off e]
          exact stP_cg (fun i4_q => by unfold stC; omega) i0_q)
    have r1_q : mm 78 1 = 80 := by rw [hF.2 1 (by decide) (by decide) (by decide)]; exact hM_q.r1
    have e0_q : mm 80 0 = q0 := hR 0 (by decide) (by decide)
    refine T_Mo_tell_100 ?_
    rw [r1_q, e0_q]
    refine ⟨hob, ⟨829, hM_q.k80, by decide, by decide⟩, fun qc_1 => ?_, fun qc_1 => ?_⟩
    · refine hK_q mm hF hP (hR.e (fun i i0_q i1_q => ?_))
      rw [show x = q0 by omega]
      exact opStart_stP i0_q b0.2
    · exact qL1 0 mm (by omega) ⟨⟨by decide, by omega⟩, hF, hP, hR⟩)
  exact qL0 0 mm (by omega) ⟨by decide, hF, hP, hR⟩
theorem k50_Mo {d : Nat} {kd : ZK} {m : ZM} {G : GR} {P : Int → GR} {s : Int} {S : Int → GR} {u : Int} {T : Int → Int} {n : Int} (hB_q : MB kd m G P s S u T n) (hS_q : SO G s u T n) {mm : ZM} {q : Int × Int} (hF : FrR m mm) (hP : MoS mm q) (hq : (0 ≤ q.1 ∧ q.1 ≤ n) ∧ 0 ≤ q.2) (hR : heardIs mm (fun _ => 0)) (hK_q : ∀ mx r1_q r2 r3 r4, r1_q = nmR T n 1 5 q → r2 = nmR T n 1 5 r1_q.2 → r3 = nmR T n 2 4 r2.2 → r4 = nmR T n 2 4 r3.2 → ((1 ≤ r1_q.1 ∧ r1_q.1 ≤ 5) ∧ (1 ≤ r2.1 ∧ r2.1 ≤ 5) ∧ (2 ≤ r3.1 ∧ r3.1 ≤ 4) ∧ (2 ≤ r4.1 ∧ r4.1 ≤ 4)) → ((0 ≤ r4.2.1 ∧ r4.2.1 ≤ n) ∧ 0 ≤ r4.2.2 ∧ (r4.2.2 = 0 → q.2 = 0)) → FrR m mx → MoS mx r4.2 → heardIs mx (opStart r1_q.1 r2.1 r3.1 r4.1) → Ev (d + 7) M_Mo_tell 0 0 147 [(2, 78), zJ, zJ] [] kd mx (zqI kd (fun zz m1_q => ∃ st2_q, rTell (G, P, s, S, u, T, n) zz st2_q ∧ (st2_q.1 = G ∨ 0 < st2_q.1 0) ∧ MJ kd m m1_q st2_q))) : Ev (d + 7) M_Mo_tell 0 0 50 [(2, 78), zJ, zJ] [] kd mm (zqI kd (fun zz m1_q => ∃ st2_q, rTell (G, P, s, S, u, T, n) zz st2_q ∧ (st2_q.1 = G ∨ 0 < st2_q.1 0) ∧ MJ kd m m1_q st2_q)) := by
  have hT0 := hB_q.t hS_q
  have hM_q := hT0.1
  have hob := hM_q.o
  have n1_q := nmR_in (T := T) (n := n) (lo := 1) (hi := 5) (s := q) hq.1 hq.2 (by decide)
  obtain ⟨r1_q, h1⟩ : ∃ r, r = nmR T n 1 5 q := ⟨_, rfl⟩
  rw [← h1] at n1_q
  have n2_q := nmR_in (T := T) (n := n) (lo := 1) (hi := 5) (s := r1_q.2) n1_q.2.1 n1_q.2.2.1 (by decide)
  obtain ⟨r2, h2⟩ : ∃ r, r = nmR T n 1 5 r1_q.2 := ⟨_, rfl⟩
  rw [← h2] at n2_q
  have n3_q := nmR_in (T := T) (n := n) (lo := 2) (hi := 4) (s := r2.2) n2_q.2.1 n2_q.2.2.1 (by decide)
  obtain ⟨r3, h3⟩ : ∃ r, r = nmR T n 2 4 r2.2 := ⟨_, rfl⟩
  rw [← h3] at n3_q
  have n4_q := nmR_in (T := T) (n := n) (lo := 2) (hi := 4) (s := r3.2) n3_q.2.1 n3_q.2.2.1 (by decide)
  obtain ⟨r4, h4⟩ : ∃ r, r = nmR T n 2 4 r3.2 := ⟨_, rfl⟩
  rw [← h4] at n4_q
  have e80 : ∀ mx : ZM, FrR m mx → mx 78 1 = 80 := fun mx h => by rw [h.2 1 (by decide) (by decide) (by decide)]; exact hM_q.r1
  have k80 : ∀ j : Int, 0 ≤ j → j < 4 → zIn kd 80 0 j := fun j j0 j1 => ⟨829, hM_q.k80, by omega, by omega⟩
  refine T_Mo_tell_50 ?_
  rw [e80 mm hF]
  refine ⟨hob, hob, _, c_Mo_number (hT0.f hF) hP hq, ?_⟩
  rw [← h1]
  rintro x2_q m3_q ⟨rfl, q3_q⟩
  have f3_q := (hF.q q3_q).z (k := 0) (v := r1_q.1)
  have w3_q := (hR.q q3_q).z (k := 0) (v := r1_q.1)
  have s3_q := q3_q.2.z (k := 0) (v := r1_q.1)
  rw [e80 _ f3_q]
  refine ⟨k80 0 (by decide) (by decide), hob, hob, _, c_Mo_number (hT0.f f3_q) s3_q ⟨n1_q.2.1, n1_q.2.2.1⟩, ?_⟩
  rw [← h2]
  rintro x5_q m6_q ⟨rfl, q6_q⟩
  have f6_q := (f3_q.q q6_q).z (k := 1) (v := r2.1)
  have w6_q := (w3_q.q q6_q).z (k := 1) (v := r2.1)
  have s6_q := q6_q.2.z (k := 1) (v := r2.1)
  rw [e80 _ f6_q]
  refine ⟨k80 1 (by decide) (by decide), hob, hob, _, c_Mo_number (hT0.f f6_q) s6_q ⟨n2_q.2.1, n2_q.2.2.1⟩, ?_⟩
  rw [← h3]
  rintro x8 m9_q ⟨rfl, q9_q⟩
  have f9_q := (f6_q.q q9_q).z (k := 2) (v := r3.1)
  have w9 := (w6_q.q q9_q).z (k := 2) (v := r3.1)
  have s9 := q9_q.2.z (k := 2) (v := r3.1)
  rw [e80 _ f9_q]
  refine ⟨k80 2 (by decide) (by decide), hob, hob, _, c_Mo_number (hT0.f f9_q) s9 ⟨n3_q.2.1, n3_q.2.2.1⟩, ?_⟩
  rw [← h4]
  rintro x11 m12_q ⟨rfl, q12_q⟩
  have f12_q := (f9_q.q q12_q).z (k := 3) (v := r4.1)
  have w12 := (w9.q q12_q).z (k := 3) (v := r4.1)
  have s12 := q12_q.2.z (k := 3) (v := r4.1)
  refine ⟨k80 3 (by decide) (by decide), ?_⟩
  refine k100_Mo hB_q hS_q f12_q s12 n1_q.1 n2_q.1 (a0_q := r3.1) (a1_q := r4.1) (w12.e (fun i i0_q i1_q => ?_)) (fun mx g1 g2 g3_q => hK_q mx r1_q r2 r3 r4 h1 h2 h3 h4 ⟨n1_q.1, n2_q.1, n3_q.1, n4_q.1⟩ ⟨n4_q.2.1, n4_q.2.2.1, fun e => n1_q.2.2.2.1 (n2_q.2.2.2.1 (n3_q.2.2.2.1 (n4_q.2.2.2.1 e)))⟩ g1 g2 g3_q)
  rcases (show i = 0 ∨ i = 1 ∨ i = 2 ∨ i = 3 ∨ 4 ≤ i by omega) with e | e | e | e | e
  · subst e; rfl
  · subst e; rfl
  · subst e; rfl
  · subst e; rfl
  · rw [gup_off (by omega), gup_off (by omega), gup_off (by omega), gup_off (by omega), stP_4 e, zb_f (by unfold stC; omega)]
theorem c_Mo_tell {d : Nat} {kd : ZK} {m : ZM} {G : GR} {P : Int → GR} {s : Int} {S : Int → GR} {u : Int} {T : Int → Int} {n : Int} (hB_q : MB kd m G P s S u T n) (hS_q : SO G s u T n) : CtI (d + 7) M_Mo_tell [(2, 78)] kd m (fun zz m1_q => ∃ st2_q, rTell (G, P, s, S, u, T, n) zz st2_q ∧ (st2_q.1 = G ∨ 0 < st2_q.1 0) ∧ MJ kd m m1_q st2_q) := by
  have hT0 := hB_q.t hS_q
  have hM_q := hT0.1
  have hob := hM_q.o
  have hn := hT0.2.2.1
  have hr1 := rn_in (P := pB_ T) hn.1
  have hr2 := rn_in (P := pL_ T) hr1.2
  have bad : ∀ mx (t : Int × Int) (K : GR), 0 < K 0 → t.2 ≠ 0 → 0 ≤ t.2 → (0 ≤ t.1 ∧ t.1 ≤ n) → isTl T n t.2 K → FrR m mx → MoS mx t → heardIs mx K → Ev (d + 7) M_Mo_tell 0 0 147 [(2, 78), zJ, zJ] [] kd mx (zqI kd (fun zz m1_q => ∃ st2_q, rTell (G, P, s, S, u, T, n) zz st2_q ∧ (st2_q.1 = G ∨ 0 < st2_q.1 0) ∧ MJ kd m m1_q st2_q)) := fun mx t K h0 h1 h2 h3 h4 hF hP hK_q => by
    refine T_Mo_tell_147 ?_
    refine ⟨hob, _, c_Mo_isRight hob hP h2, ?_⟩
    rintro _ _ ⟨rfl, rfl⟩
    refine ⟨fun qc_1 => k180_Mo hB_q hS_q hF hP h2 h3 (fun _ => h4) (fun e => absurd e h1) (fun e => absurd e h1) hK_q h0, fun qc_1 => absurd (zb_ne0.1 qc_1) h1⟩
  have qL0 := zfor1 829 (fun (i : Int) (mm : ZM) => Ev (d + 7) M_Mo_tell 0 0 12 [(2, 78), (0, i), zJ] [] kd mm (zqI kd (fun zz m1_q => ∃ st2_q, rTell (G, P, s, S, u, T, n) zz st2_q ∧ (st2_q.1 = G ∨ 0 < st2_q.1 0) ∧ MJ kd m m1_q st2_q))) (fun (i : Int) (mm : ZM) => 0 ≤ i ∧ FrR m mm ∧ MoS mm (0, 0) ∧ ∀ j, 0 ≤ j → j < i → mm 80 j = 0) (by
    intro i mm hi_q hI0 qKL0
    obtain ⟨hi0, hF, hP, hR⟩ := hI0
    have hT_q := hT0.f hF
    refine T_Mo_tell_12 ?_
    rw [hT_q.1.r1]
    refine ⟨fun qc_1 => ?_, fun qc_1 => ?_⟩
    · have hR0 : heardIs mm (fun _ => 0) := fun j j0 j1 => hR j j0 (by omega)
      refine ⟨hob, _, c_Mo_takes hT_q hP ⟨Int.le_refl 0, hn.1⟩ (i := 0) (by decide), ?_⟩
      rintro x2_q m3_q ⟨rfl, q3_q⟩
      refine ⟨fun qc_2 => ?_, fun qc_2 => ?_⟩
      · have hh : isHd T n := zb_ne0.1 qc_2
        have q3' : MoQ mm m3_q (rn (pL_ T) n (rn (pB_ T) n 0), 0) := by
          rw [show (zite (isW T 0 (rn (pB_ T) n (0, (0 : Int)).1) (rn (pL_ T) n (rn (pB_ T) n (0, (0 : Int)).1))) (rn (pL_ T) n (rn (pB_ T) n (0, (0 : Int)).1)) (rn (pB_ T) n (0, (0 : Int)).1)) = rn (pL_ T) n (rn (pB_ T) n 0) from zite_t (zb_ne0.1 qc_2)] at q3_q
          exact q3_q
        refine k50_Mo hB_q hS_q (hF.q q3') q3'.2 ⟨⟨by try simp only []; omega, by try simp only []; omega⟩, Int.le_refl _⟩ (hR0.q q3') (fun mx r1_q r2 r3 r4 h1 h2 h3 h4 bd bq g1 g2 g3_q => ?_)
        have e1_q : r1_q = pH1 T n := h1
        have e2_q : r2 = pH2 T n := by rw [h2, e1_q]; rfl
        have e3_q : r3 = pH3 T n := by rw [h3, e2_q]; rfl
        have e4_q : r4 = pH4 T n := by rw [h4, e3_q]; rfl
        rw [e1_q, e2_q, e3_q, e4_q] at bd g3_q
        rw [e4_q] at bq g2
        rcases Classical.em ((pH4 T n).2.2 = 0) with k | k
        · exact k147_Mo (a := (pH4 T n).2.1) (K := pHG T n) hB_q hS_q g1 (by rw [← k]; exact g2) bq.1 hh k rfl g3_q (opStart_ok bd.1 bd.2.1 bd.2.2.1 bd.2.2.2) (by show 0 < (pH1 T n).1; have := bd.1; omega)
        · exact bad mx _ _ (by show 0 < (pH1 T n).1; have := bd.1; omega) k bq.2.1 bq.1 (Or.inr (Or.inl ⟨hh, k, rfl⟩)) g1 g2 g3_q
      · have hh : ¬ isHd T n := zb_eq0.1 (Classical.not_not.1 qc_2)
        have q3' : MoQ mm m3_q (rn (pB_ T) n 0, 0) := by
          rw [show (zite (isW T 0 (rn (pB_ T) n (0, (0 : Int)).1) (rn (pL_ T) n (rn (pB_ T) n (0, (0 : Int)).1))) (rn (pL_ T) n (rn (pB_ T) n (0, (0 : Int)).1)) (rn (pB_ T) n (0, (0 : Int)).1)) = rn (pB_ T) n 0 from zite_f (zb_eq0.1 (Classical.not_not.1 qc_2))] at q3_q
          exact q3_q
        rw [q3'.2.1]
        refine ⟨hob, hob, _, c_Mo_fails hob q3'.2 (Int.le_refl 0) (by decide) (show 0 ≤ rn (pB_ T) n 0 ∧ rn (pB_ T) n 0 ≤ 400 by omega), ?_⟩
        rintro m6_q q6_q
        rw [if_pos rfl] at q6_q
        have q := q3'.tr q6_q
        refine k50_Mo hB_q hS_q (hF.q q) q.2 ⟨⟨by try simp only []; omega, by try simp only []; omega⟩, by try simp only []; omega⟩ (hR0.q q) (fun mx r1_q r2 r3 r4 h1 h2 h3 h4 bd bq g1 g2 g3_q => ?_)
        have hne : (8 * rn (pB_ T) n 0 + 1 : Int) ≠ 0 := by omega
        have e1_q : r1_q.2 = (rn (pB_ T) n 0, 8 * rn (pB_ T) n 0 + 1) := by rw [h1, nmR_f hne]
        have e2_q : r2.2 = (rn (pB_ T) n 0, 8 * rn (pB_ T) n 0 + 1) := by rw [h2, e1_q, nmR_f hne]
        have e3_q : r3.2 = (rn (pB_ T) n 0, 8 * rn (pB_ T) n 0 + 1) := by rw [h3, e2_q, nmR_f hne]
        have e4_q : r4.2 = (rn (pB_ T) n 0, 8 * rn (pB_ T) n 0 + 1) := by rw [h4, e3_q, nmR_f hne]
        rw [e4_q] at g2 bq
        exact bad mx _ _ (by show 0 < r1_q.1; have := bd.1; omega) hne bq.2.1 bq.1 (Or.inl ⟨hh, rfl⟩) g1 g2 g3_q
    · rw [iw_s (x := i + 1) (by omega) (by omega)]
      refine ⟨hob, ⟨829, hM_q.k80, by omega, by omega⟩, qKL0 _ (by omega) ⟨by omega, hF.z, hP.z, fun j j0 j1 => ?_⟩⟩
      rw [zup_at]
      rcases (show j = i ∨ j < i by omega) with e | e
      · rw [e, gup_at]
      · rw [gup_off (by omega)]
        exact hR j j0 e)
  refine S_Mo_tell ?_
  refine ⟨hob, hob, qL0 0 _ (by decide) ⟨by decide, ⟨fun c qc_1 _ => by rw [zup_off qc_1, zup_off qc_1], fun c qc_1 qc_2 qc_3 => by rw [zup_nj qc_2, zup_nj qc_1]⟩, ⟨by rw [zup_nj (by decide), zup_self], by rw [zup_self]; rfl⟩, fun j j0 j1 => absurd j1 (by omega)⟩⟩
