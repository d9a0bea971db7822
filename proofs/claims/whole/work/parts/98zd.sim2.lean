/-! BOTH SIDES, second: a call on both -/
def vG (G : GR) : Prop := 0 < G 1 → 0 < G 0
def sZ (G K : GR) : Prop := K 0 = G 0 ∧ K 1 = G 1
theorem vG_sz {G K : GR} (h : sZ G K) (v : vG G) : vG K := fun z => by rw [h.1]; exact v (by rw [← h.2]; exact z)
theorem sZ_gup {G K : GR} {k v : Int} (hk : 4 ≤ k) (h : sZ G K) : sZ G (gup K k v) := ⟨by rw [gup_off (by omega)]; exact h.1, by rw [gup_off (by omega)]; exact h.2⟩
theorem sZ_rf {G : GR} : sZ G G := ⟨rfl, rfl⟩
theorem zC_nn {p x y : Int} (hx : 0 ≤ x) (hy : 0 ≤ y) : 0 ≤ zC p x y := by unfold zC; split <;> omega
theorem zS_nn {p x y a b : Int} (hx : 0 ≤ x) (hy : 0 ≤ y) (ha_q : 0 ≤ a) (hb_q : 0 ≤ b) : 0 ≤ zS p x y a b := by
  have := zC_nn (p := p) hx hy
  unfold zS; split <;> omega
theorem sZ_par {G : GR} {x y s : Int} (hx : 0 ≤ x) (hy : 0 ≤ y) : sZ G (opPar G x y s) := zfold_P (P := sZ G) _ _ sZ_rf (fun a H a0_q _ h => zfold_P (P := sZ G) _ _ h (fun b K b0 _ k => sZ_gup (by have := zS_nn (p := 0) hx hy a0_q b0; omega) k))
theorem sZ_swp {G K : GR} {i j : Int} (hi_q : 4 ≤ i) (hj : 4 ≤ j) (h : sZ G K) : sZ G (swp K i j) := sZ_gup hj (sZ_gup hi_q h)
theorem sZ_ex {G : GR} {p x a e : Int} (hx : 0 ≤ x) (ha_q : 0 ≤ a) (he : 0 ≤ e) : sZ G (opEx G p x a e) := zfold_P (P := sZ G) _ _ sZ_rf (fun i H i0_q _ h => zfold_P (P := sZ G) _ _ h (fun b K b0 _ k => by
  have z1 := zS_nn (p := p) hx i0_q ha_q b0
  have z2 := zS_nn (p := p) hx i0_q he b0
  exact sZ_swp (by omega) (by omega) (sZ_swp (by omega) (by omega) k)))
theorem sZ_draw {G : GR} {s : Int} : sZ G (opDraw G s).2 := zfold_P (P := fun p : Int × GR => sZ G p.2) _ _ sZ_rf (fun x p x0_q _ h => zfold_P (P := fun p : Int × GR => sZ G p.2) _ _ h (fun y p y0 _ h => zfold_P (P := fun p : Int × GR => sZ G p.2) _ _ (sZ_gup (by have := zC_nn (p := 0) x0_q y0; omega) h) (fun a p a0_q _ h => zfold_P (P := fun p : Int × GR => sZ G p.2) _ _ h (fun b p b0 _ h => sZ_gup (by have := zS_nn (p := 0) x0_q y0 a0_q b0; omega) h))))
theorem sZ_mix {G : GR} {r s : Int → Int} {n : Int} (hr : ∀ q, 0 ≤ r q) (hs : ∀ q, 0 ≤ s q) : sZ G (opMix G r s n) := zfold_P (P := sZ G) _ _ sZ_rf (fun x H x0_q _ h => zfold_P (P := sZ G) _ _ h (fun y K y0 _ k => sZ_gup (by have := zS_nn (p := 0) x0_q y0 (hr x) (hs y); omega) k))
/-- every game that stands is one that was told, or none -/
def VS (st : ST) : Prop := vG st.1 ∧ (∀ k, 0 ≤ k → k < st.2.2.1 → vG (st.2.1 k)) ∧ ∀ k, 0 ≤ k → k < 2 → sbit st.2.2.2.2.1 k → vG (st.2.2.2.1 k)
theorem VS_zif {P : Prop} {a b : Int × ST} (h : P → VS a.2) (k : ¬ P → VS b.2) : VS (zif P a b).2 := by
  rcases Classical.em P with p | p
  · rw [zif_t p]; exact h p
  · rw [zif_f p]; exact k p
theorem VS_act {st : ST} {K : GR} (v : VS st) (hs : st.2.2.1 ≤ 10) (h : vG K) : VS (acted st K) := by
  refine ⟨h, fun k k0_q k1_q => ?_, v.2.2⟩
  have k1_q : k < zmin (st.2.2.1 + 1) 10 := k1_q
  have e := zmin_l (st.2.2.1 + 1) 10
  have e2_q := zmin_r (st.2.2.1 + 1) 10
  show vG (pushP st.2.1 st.2.2.1 st.1 k)
  unfold pushP
  split
  · split
    · exact v.1
    · exact v.2.1 _ (by omega) (by omega)
  · split
    · exact v.1
    · exact v.2.1 _ k0_q (by omega)
def AS (kd : ZK) (m : ZM) (st : ST) : Prop := AI kd m st.1 st.2.1 st.2.2.1 st.2.2.2.1 st.2.2.2.2.1 st.2.2.2.2.2.1 st.2.2.2.2.2.2
def BS (kd : ZK) (m : ZM) (st : ST) : Prop := MB kd m st.1 st.2.1 st.2.2.1 st.2.2.2.1 st.2.2.2.2.1 st.2.2.2.2.2.1 st.2.2.2.2.2.2
/-- class and model bear one state -/
def JI (kd : ZK) (m : ZM) (st : ST) : Prop := AS kd m st ∧ BS kd m st ∧ VS st
theorem AI.so {kd : ZK} {m : ZM} {G : GR} {P : Int → GR} {s : Int} {S : Int → GR} {u : Int} {T : Int → Int} {n : Int} (h : AI kd m G P s S u T n) : SO G s u T n := ⟨h.ok, h.pc.2.2.2.1.2, h.u3, h.tp.2.2.2.2.1, fun i i0_q i1_q => (h.tp.2.2.2.2.2 i i0_q i1_q).2⟩
theorem AI.lo {kd : ZK} {m m1_q : ZM} {G : GR} {P : Int → GR} {s : Int} {S : Int → GR} {u : Int} {T : Int → Int} {n : Int} (h : AI kd m G P s S u T n) (e : ∀ c, c < 78 → m1_q c = m c) : AI kd m1_q G P s S u T n := by
  have z := h.z
  exact h.fr (e 0 (by omega)) (fun c c1_q c2_q => e c (by omega)) ⟨h.g.frame (fun a a1_q a2 => e a (by omega)), h.ok⟩ (h.sp.frame (e _ (by omega))) (h.pc.frame (fun c c1_q c2_q => e c (by omega))) (h.tb.frame (e 45 (by omega))) (h.du.frame (e 52 (by omega))) (h.sh.frame (e 56 (by omega))) (h.tp.frame (e 1 (by omega)) (e 2 (by omega)))
theorem MB.hi {kd : ZK} {m m1_q : ZM} {G : GR} {P : Int → GR} {s : Int} {S : Int → GR} {u : Int} {T : Int → Int} {n : Int} (h : MB kd m G P s S u T n) (e : ∀ c, 77 < c → m1_q c = m c) : MB kd m1_q G P s S u T n := by
  unfold MB
  rw [e 78 (by decide), e 79 (by decide), e 82 (by decide), e 83 (by decide), e 84 (by decide), e 85 (by decide)]
  exact ⟨h.1.fr (e 78 (by decide)), h.2⟩
section
variable {kd : ZK} {m m1_q m2_q : ZM} {st st2_q : ST}
theorem JI.so (h : JI kd m st) : SO st.1 st.2.2.1 st.2.2.2.2.1 st.2.2.2.2.2.1 st.2.2.2.2.2.2 := AI.so h.1
theorem JI.hi (h : JI kd m st) (a : AJ kd m m1_q st2_q) : BS kd m1_q st := MB.hi h.2.1 a.2
theorem JI.mj (h : JI kd m st) (a : AJ kd m m1_q st2_q) (b : MJ kd m1_q m2_q st2_q) (v : VS st2_q) : JI kd m2_q st2_q := ⟨AI.lo a.1 b.2, b.1, v⟩
theorem JI.rd (h : JI kd m st) (a : AJ kd m m1_q st) (b : MF m1_q m2_q) : JI kd m2_q st := ⟨AI.lo a.1 (fun c hc_q => b.1 c (by omega)), MB.mf (h.hi a) b, h.2.2⟩
theorem MF.eq (e : m = m1_q) : MF m m1_q := e ▸ MF.rf
end
theorem CtI.mono {d : Nat} {M : ZMeth} {as : List ZV} {kd : ZK} {m : ZM} {q q2_q : Int → ZM → Prop} (h : ∀ x m', q x m' → q2_q x m') (c : CtI d M as kd m q) : CtI d M as kd m q2_q := Ct.mono (fun r kd' m' w => by
  obtain ⟨x, w1_q, w2_q, w3_q⟩ := w
  exact ⟨x, w1_q, w2_q, h x m' w3_q⟩) c
theorem CtL.mono {d : Nat} {M : ZMeth} {as : List ZV} {kd : ZK} {m : ZM} {q q2_q : Int → ZM → Prop} (h : ∀ x m', q x m' → q2_q x m') (c : CtL d M as kd m q) : CtL d M as kd m q2_q := Ct.mono (fun r kd' m' w => by
  obtain ⟨x, w1_q, w2_q, w3_q⟩ := w
  exact ⟨x, w1_q, w2_q, h x m' w3_q⟩) c
theorem VS_feed {st : ST} {a b c e f : Int} (v : VS st) (hs : SO st.1 st.2.2.1 st.2.2.2.2.1 st.2.2.2.2.2.1 st.2.2.2.2.2.2) : VS (fFeed st a b c e f).2 := by
  unfold fFeed
  exact VS_zif (fun _ => v) (fun _ => v)
theorem VS_end {st : ST} {k : Int} (v : VS st) (hs : SO st.1 st.2.2.1 st.2.2.2.2.1 st.2.2.2.2.2.1 st.2.2.2.2.2.2) : VS (fEnd st k).2 := by
  unfold fEnd
  exact VS_zif (fun _ => v) (fun _ => VS_zif (fun _ => v) (fun _ => v))
theorem VS_weigh {st : ST} {x y k : Int} (v : VS st) (hs : SO st.1 st.2.2.1 st.2.2.2.2.1 st.2.2.2.2.2.1 st.2.2.2.2.2.2) : VS (fWeigh st x y k).2 := by
  unfold fWeigh
  exact VS_zif (fun h => VS_zif (fun _ => v) (fun _ => VS_zif (fun _ => VS_zif (fun _ => VS_act v hs.2.1.2 (vG_sz (sZ_gup (by have := zC_nn (p := 0) h.1.2.1 h.2.2.1; omega) sZ_rf) v.1)) (fun _ => v)) (fun _ => v))) (fun _ => v)
theorem VS_decide {st : ST} {x y a b : Int} (v : VS st) (hs : SO st.1 st.2.2.1 st.2.2.2.2.1 st.2.2.2.2.2.1 st.2.2.2.2.2.2) : VS (fDecide st x y a b).2 := by
  unfold fDecide
  exact VS_zif (fun h => VS_act v hs.2.1.2 (vG_sz (sZ_gup (by have := zS_nn (p := 0) h.1.1.2.1 h.1.2.2.1 h.2.1.2.1 h.2.2.2.1; omega) sZ_rf) v.1)) (fun _ => v)
theorem VS_parity {st : ST} {x y k : Int} (v : VS st) (hs : SO st.1 st.2.2.1 st.2.2.2.2.1 st.2.2.2.2.2.1 st.2.2.2.2.2.2) : VS (fParity st x y k).2 := by
  unfold fParity
  exact VS_zif (fun h => VS_zif (fun _ => v) (fun _ => VS_zif (fun _ => VS_zif (fun _ => VS_act v hs.2.1.2 (vG_sz (sZ_par h.1.2.1 h.2.2.1) v.1)) (fun _ => v)) (fun _ => v))) (fun _ => v)
theorem VS_exchange {st : ST} {p q a e : Int} (v : VS st) (hs : SO st.1 st.2.2.1 st.2.2.2.2.1 st.2.2.2.2.2.1 st.2.2.2.2.2.2) : VS (fExchange st p q a e).2 := by
  unfold fExchange
  exact VS_zif (fun h => VS_act v hs.2.1.2 (vG_sz (sZ_ex h.1.2.1 h.2.1.2.1 h.2.2.1.2.1) v.1)) (fun _ => v)
theorem VS_swap {st : ST} (v : VS st) (hs : SO st.1 st.2.2.1 st.2.2.2.2.1 st.2.2.2.2.2.1 st.2.2.2.2.2.2) : VS (fSwap st).2 := by
  unfold fSwap
  exact VS_zif (fun h => VS_act v hs.2.1.2 (fun _ => by have := hs.1.2.1 h; show 0 < st.1 1; omega)) (fun _ => v)
theorem vG_drop {G : GR} {p q : Int} (v : vG G) (h : isQ G p q) (n : nQ G p ≠ 1) : vG (opDrop G p q) := by
  obtain ⟨hp, h1, h2⟩ := h
  unfold opDrop
  unfold nQ at n h2
  split
  · rename_i e
    rw [if_pos e] at n h2
    exact fun _ => show 0 < G 0 - 1 by omega
  · rename_i e
    rw [if_neg e] at n h2
    exact fun _ => v (by omega)
theorem vG_copy {G : GR} {p q : Int} (v : vG G) (h : isQ G p q) : vG (opCopy G p q) := by
  obtain ⟨hp, h1, h2⟩ := h
  unfold opCopy
  unfold nQ at h2
  split
  · rename_i e
    rw [if_pos e] at h2
    exact fun _ => show 0 < G 0 + 1 by omega
  · rename_i e
    rw [if_neg e] at h2
    exact fun _ => v (by omega)
theorem VS_drop {st : ST} {p q : Int} (v : VS st) (hs : SO st.1 st.2.2.1 st.2.2.2.2.1 st.2.2.2.2.2.1 st.2.2.2.2.2.2) : VS (fDrop st p q).2 := by
  unfold fDrop
  exact VS_zif (fun h => VS_zif (fun n => VS_act v hs.2.1.2 (vG_drop v.1 h n)) (fun _ => v)) (fun _ => v)
theorem VS_copy {st : ST} {p q : Int} (v : VS st) (hs : SO st.1 st.2.2.1 st.2.2.2.2.1 st.2.2.2.2.2.1 st.2.2.2.2.2.2) : VS (fCopy st p q).2 := by
  unfold fCopy
  exact VS_zif (fun h => VS_zif (fun n => VS_act v hs.2.1.2 (vG_copy v.1 h)) (fun _ => v)) (fun _ => v)
theorem VS_box {st : ST} {x y a b k : Int} (v : VS st) (hs : SO st.1 st.2.2.1 st.2.2.2.2.1 st.2.2.2.2.2.1 st.2.2.2.2.2.2) : VS (fBox st x y a b k).2 := by
  unfold fBox
  exact VS_zif (fun h => VS_zif (fun _ => v) (fun _ => VS_zif (fun _ => VS_zif (fun _ => VS_act v hs.2.1.2 (vG_sz (sZ_gup (by have := zS_nn (p := 0) h.1.1.2.1 h.1.2.2.1 h.2.1.2.1 h.2.2.2.1; omega) sZ_rf) v.1)) (fun _ => v)) (fun _ => v))) (fun _ => v)
theorem VS_mix {st : ST} {a b k : Int} (v : VS st) (hs : SO st.1 st.2.2.1 st.2.2.2.2.1 st.2.2.2.2.2.1 st.2.2.2.2.2.2) : VS (fMix st a b k).2 := by
  unfold fMix
  exact VS_zif (fun h => VS_zif (fun _ => v) (fun _ => VS_zif (fun _ => VS_zif (fun _ => VS_act v hs.2.1.2 (vG_sz (sZ_mix (fun _ => (dg10_in _ _).1) (fun _ => (dg10_in _ _).1)) v.1)) (fun _ => v)) (fun _ => v))) (fun _ => v)
theorem VS_draw {st : ST} {k : Int} (v : VS st) (hs : SO st.1 st.2.2.1 st.2.2.2.2.1 st.2.2.2.2.2.1 st.2.2.2.2.2.2) : VS (fDraw st k).2 := by
  unfold fDraw
  exact VS_zif (fun _ => VS_act v hs.2.1.2 (vG_sz sZ_draw v.1)) (fun _ => v)
theorem VS_undo {st : ST} (v : VS st) (hs : SO st.1 st.2.2.1 st.2.2.2.2.1 st.2.2.2.2.2.1 st.2.2.2.2.2.2) : VS (fUndo st).2 := by
  unfold fUndo
  exact VS_zif (fun h => ⟨v.2.1 _ (by have := hs.2.1.1; omega) (by omega), fun k k0_q k1_q => v.2.1 k k0_q (by have k1_q : k < st.2.2.1 - 1 := k1_q; omega), v.2.2⟩) (fun _ => v)
theorem VS_keep {st : ST} {k : Int} (v : VS st) (hs : SO st.1 st.2.2.1 st.2.2.2.2.1 st.2.2.2.2.2.1 st.2.2.2.2.2.2) : VS (fKeep st k).2 := by
  unfold fKeep
  refine VS_zif (fun _ => v) (fun n => VS_zif (fun h => ⟨v.1, v.2.1, fun j j0 j1 b => ?_⟩) (fun _ => v))
  have b : sbit (zor st.2.2.2.2.1 (zshl 1 k)) j := b
  rw [(shf_or hs.2.2.1 (k := k) ⟨by omega, h⟩).2 j j0 j1] at b
  show vG (putS st.2.2.2.1 k st.1 j)
  unfold putS
  split
  · exact v.1
  · exact v.2.2 j j0 j1 (b.resolve_right (by assumption))
theorem VS_back {st : ST} {k : Int} (v : VS st) (hs : SO st.1 st.2.2.1 st.2.2.2.2.1 st.2.2.2.2.2.1 st.2.2.2.2.2.2) : VS (fBack st k).2 := by
  unfold fBack
  exact VS_zif (fun _ => v) (fun n => VS_zif (fun h => VS_zif (fun b => ⟨v.2.2 k (by omega) h b, fun j j0 j1 => absurd j1 (show ¬ j < 0 by omega), v.2.2⟩) (fun _ => v)) (fun _ => v))
theorem VS_tell {st st2_q : ST} {x : Int} (v : VS st) (r : rTell st x st2_q) (k : st2_q.1 = st.1 ∨ 0 < st2_q.1 0) : VS st2_q := by
  obtain ⟨f, K, a1_q, a2, a3⟩ := r
  rcases Classical.em (f = 0) with q | q
  · have e := (a2 q).2
    subst e
    refine ⟨?_, fun j j0 j1 => absurd j1 (show ¬ j < 0 by omega), v.2.2⟩
    rcases k with k | k
    · have k : K = st.1 := k
      show vG K
      rw [k]; exact v.1
    · exact fun _ => k
  · have e := (a3 q).2
    subst e
    exact v
theorem pr_feed {kd : ZK} {m : ZM} {st : ST} (h : JI kd m st) {a b c e f : Int} : CtI 40 M_Ap_feed [(2, 0), (0, a), (0, b), (0, c), (0, e), (0, f)] kd m (fun r1_q m1_q => CtI 40 M_Mo_feed [(2, 78), (0, a), (0, b), (0, c), (0, e), (0, f)] kd m1_q (fun r2 m2_q => r1_q = r2 ∧ ∃ st2_q, JI kd m2_q st2_q)) :=
  CtI.mono (fun r1_q m1_q w => CtI.mono (fun r2 m2_q z => ⟨eq_q w.1 z.1, _, h.mj w.2 z.2 (VS_feed h.2.2 h.so)⟩) (c_Mo_feed (h.hi w.2) h.so)) (c_Ap_feed h.1)
theorem pr_end {kd : ZK} {m : ZM} {st : ST} (h : JI kd m st) {k : Int} : CtI 40 M_Ap_end [(2, 0), (0, k)] kd m (fun r1_q m1_q => CtI 40 M_Mo_end [(2, 78), (0, k)] kd m1_q (fun r2 m2_q => r1_q = r2 ∧ ∃ st2_q, JI kd m2_q st2_q)) :=
  CtI.mono (fun r1_q m1_q w => CtI.mono (fun r2 m2_q z => ⟨eq_q w.1 z.1, _, h.mj w.2 z.2 (VS_end h.2.2 h.so)⟩) (c_Mo_end (h.hi w.2) h.so)) (c_Ap_end h.1)
theorem pr_tell {kd : ZK} {m : ZM} {st : ST} (h : JI kd m st) : CtI 40 M_Ap_tell [(2, 0)] kd m (fun r1_q m1_q => CtI 40 M_Mo_tell [(2, 78)] kd m1_q (fun r2 m2_q => r1_q = r2 ∧ ∃ st2_q, JI kd m2_q st2_q)) :=
  CtI.mono (fun r1_q m1_q w => by
    obtain ⟨s1_q, w1_q, w2_q⟩ := w
    exact CtI.mono (fun r2 m2_q z => by
      obtain ⟨s2_q, z1, z2, z3⟩ := z
      obtain ⟨e1_q, e2_q⟩ := rTell_eq w1_q z1
      subst e2_q
      exact ⟨e1_q, s1_q, h.mj w2_q z3 (VS_tell h.2.2 z1 z2)⟩) (c_Mo_tell (h.hi w2_q) h.so)) (c_Ap_tell h.1)
theorem pr_weigh {kd : ZK} {m : ZM} {st : ST} (h : JI kd m st) {x y k : Int} : CtI 40 M_Ap_weigh [(2, 0), (0, x), (0, y), (0, k)] kd m (fun r1_q m1_q => CtI 40 M_Mo_weigh [(2, 78), (0, x), (0, y), (0, k)] kd m1_q (fun r2 m2_q => r1_q = r2 ∧ ∃ st2_q, JI kd m2_q st2_q)) :=
  CtI.mono (fun r1_q m1_q w => CtI.mono (fun r2 m2_q z => ⟨eq_q w.1 z.1, _, h.mj w.2 z.2 (VS_weigh h.2.2 h.so)⟩) (c_Mo_weigh (h.hi w.2) h.so)) (c_Ap_weigh h.1)
theorem pr_decide {kd : ZK} {m : ZM} {st : ST} (h : JI kd m st) {x y a b : Int} : CtI 40 M_Ap_decide [(2, 0), (0, x), (0, y), (0, a), (0, b)] kd m (fun r1_q m1_q => CtI 40 M_Mo_decide [(2, 78), (0, x), (0, y), (0, a), (0, b)] kd m1_q (fun r2 m2_q => r1_q = r2 ∧ ∃ st2_q, JI kd m2_q st2_q)) :=
  CtI.mono (fun r1_q m1_q w => CtI.mono (fun r2 m2_q z => ⟨eq_q w.1 z.1, _, h.mj w.2 z.2 (VS_decide h.2.2 h.so)⟩) (c_Mo_decide (h.hi w.2) h.so)) (c_Ap_decide h.1)
theorem pr_parity {kd : ZK} {m : ZM} {st : ST} (h : JI kd m st) {x y k : Int} : CtI 40 M_Ap_parity [(2, 0), (0, x), (0, y), (0, k)] kd m (fun r1_q m1_q => CtI 40 M_Mo_parity [(2, 78), (0, x), (0, y), (0, k)] kd m1_q (fun r2 m2_q => r1_q = r2 ∧ ∃ st2_q, JI kd m2_q st2_q)) :=
  CtI.mono (fun r1_q m1_q w => CtI.mono (fun r2 m2_q z => ⟨eq_q w.1 z.1, _, h.mj w.2 z.2 (VS_parity h.2.2 h.so)⟩) (c_Mo_parity (h.hi w.2) h.so)) (c_Ap_parity h.1)
theorem pr_exchange {kd : ZK} {m : ZM} {st : ST} (h : JI kd m st) {p q a e : Int} : CtI 40 M_Ap_exchange [(2, 0), (0, p), (0, q), (0, a), (0, e)] kd m (fun r1_q m1_q => CtI 40 M_Mo_exchange [(2, 78), (0, p), (0, q), (0, a), (0, e)] kd m1_q (fun r2 m2_q => r1_q = r2 ∧ ∃ st2_q, JI kd m2_q st2_q)) :=
  CtI.mono (fun r1_q m1_q w => CtI.mono (fun r2 m2_q z => ⟨eq_q w.1 z.1, _, h.mj w.2 z.2 (VS_exchange h.2.2 h.so)⟩) (c_Mo_exchange (h.hi w.2) h.so)) (c_Ap_exchange h.1)
theorem pr_swap {kd : ZK} {m : ZM} {st : ST} (h : JI kd m st) : CtI 40 M_Ap_swap [(2, 0)] kd m (fun r1_q m1_q => CtI 40 M_Mo_swap [(2, 78)] kd m1_q (fun r2 m2_q => r1_q = r2 ∧ ∃ st2_q, JI kd m2_q st2_q)) :=
  CtI.mono (fun r1_q m1_q w => CtI.mono (fun r2 m2_q z => ⟨eq_q w.1 z.1, _, h.mj w.2 z.2 (VS_swap h.2.2 h.so)⟩) (c_Mo_swap (h.hi w.2) h.so)) (c_Ap_swap h.1)
theorem pr_drop {kd : ZK} {m : ZM} {st : ST} (h : JI kd m st) {p q : Int} : CtI 40 M_Ap_drop [(2, 0), (0, p), (0, q)] kd m (fun r1_q m1_q => CtI 40 M_Mo_drop [(2, 78), (0, p), (0, q)] kd m1_q (fun r2 m2_q => r1_q = r2 ∧ ∃ st2_q, JI kd m2_q st2_q)) :=
  CtI.mono (fun r1_q m1_q w => CtI.mono (fun r2 m2_q z => ⟨eq_q w.1 z.1, _, h.mj w.2 z.2 (VS_drop h.2.2 h.so)⟩) (c_Mo_drop (h.hi w.2) h.so)) (c_Ap_drop h.1)
theorem pr_copy {kd : ZK} {m : ZM} {st : ST} (h : JI kd m st) {p q : Int} : CtI 40 M_Ap_copy [(2, 0), (0, p), (0, q)] kd m (fun r1_q m1_q => CtI 40 M_Mo_copy [(2, 78), (0, p), (0, q)] kd m1_q (fun r2 m2_q => r1_q = r2 ∧ ∃ st2_q, JI kd m2_q st2_q)) :=
  CtI.mono (fun r1_q m1_q w => CtI.mono (fun r2 m2_q z => ⟨eq_q w.1 z.1, _, h.mj w.2 z.2 (VS_copy h.2.2 h.so)⟩) (c_Mo_copy (h.hi w.2) h.so)) (c_Ap_copy h.1 h.2.2.1)
theorem pr_box {kd : ZK} {m : ZM} {st : ST} (h : JI kd m st) {x y a b k : Int} : CtI 40 M_Ap_box [(2, 0), (0, x), (0, y), (0, a), (0, b), (0, k)] kd m (fun r1_q m1_q => CtI 40 M_Mo_box [(2, 78), (0, x), (0, y), (0, a), (0, b), (0, k)] kd m1_q (fun r2 m2_q => r1_q = r2 ∧ ∃ st2_q, JI kd m2_q st2_q)) :=
  CtI.mono (fun r1_q m1_q w => CtI.mono (fun r2 m2_q z => ⟨eq_q w.1 z.1, _, h.mj w.2 z.2 (VS_box h.2.2 h.so)⟩) (c_Mo_box (h.hi w.2) h.so)) (c_Ap_box h.1)
theorem pr_mix {kd : ZK} {m : ZM} {st : ST} (h : JI kd m st) {y z k : Int} (z1 : zin32 y) (z2 : zin32 z) : CtI 40 M_Ap_mix [(2, 0), (0, y), (0, z), (0, k)] kd m (fun r1_q m1_q => CtI 40 M_Mo_mix [(2, 78), (0, y), (0, z), (0, k)] kd m1_q (fun r2 m2_q => r1_q = r2 ∧ ∃ st2_q, JI kd m2_q st2_q)) :=
  CtI.mono (fun r1_q m1_q w => CtI.mono (fun r2 m2_q z => ⟨eq_q w.1 z.1, _, h.mj w.2 z.2 (VS_mix h.2.2 h.so)⟩) (c_Mo_mix (h.hi w.2) h.so z1 z2)) (c_Ap_mix h.1 z1 z2)
theorem pr_draw {kd : ZK} {m : ZM} {st : ST} (h : JI kd m st) {k : Int} : CtI 40 M_Ap_draw [(2, 0), (0, k)] kd m (fun r1_q m1_q => CtI 40 M_Mo_draw [(2, 78), (0, k)] kd m1_q (fun r2 m2_q => r1_q = r2 ∧ ∃ st2_q, JI kd m2_q st2_q)) :=
  CtI.mono (fun r1_q m1_q w => CtI.mono (fun r2 m2_q z => ⟨eq_q w.1 z.1, _, h.mj w.2 z.2 (VS_draw h.2.2 h.so)⟩) (c_Mo_draw (h.hi w.2) h.so)) (c_Ap_draw h.1)
theorem pr_undo {kd : ZK} {m : ZM} {st : ST} (h : JI kd m st) : CtI 40 M_Ap_undo [(2, 0)] kd m (fun r1_q m1_q => CtI 40 M_Mo_undo [(2, 78)] kd m1_q (fun r2 m2_q => r1_q = r2 ∧ ∃ st2_q, JI kd m2_q st2_q)) :=
  CtI.mono (fun r1_q m1_q w => CtI.mono (fun r2 m2_q z => ⟨eq_q w.1 z.1, _, h.mj w.2 z.2 (VS_undo h.2.2 h.so)⟩) (c_Mo_undo (h.hi w.2) h.so)) (c_Ap_undo h.1)
theorem pr_keep {kd : ZK} {m : ZM} {st : ST} (h : JI kd m st) {k : Int} : CtI 40 M_Ap_keep [(2, 0), (0, k)] kd m (fun r1_q m1_q => CtI 40 M_Mo_keep [(2, 78), (0, k)] kd m1_q (fun r2 m2_q => r1_q = r2 ∧ ∃ st2_q, JI kd m2_q st2_q)) :=
  CtI.mono (fun r1_q m1_q w => CtI.mono (fun r2 m2_q z => ⟨eq_q w.1 z.1, _, h.mj w.2 z.2 (VS_keep h.2.2 h.so)⟩) (c_Mo_keep (h.hi w.2) h.so)) (c_Ap_keep h.1)
theorem pr_back {kd : ZK} {m : ZM} {st : ST} (h : JI kd m st) {k : Int} : CtI 40 M_Ap_back [(2, 0), (0, k)] kd m (fun r1_q m1_q => CtI 40 M_Mo_back [(2, 78), (0, k)] kd m1_q (fun r2 m2_q => r1_q = r2 ∧ ∃ st2_q, JI kd m2_q st2_q)) :=
  CtI.mono (fun r1_q m1_q w => CtI.mono (fun r2 m2_q z => ⟨eq_q w.1 z.1, _, h.mj w.2 z.2 (VS_back h.2.2 h.so)⟩) (c_Mo_back (h.hi w.2) h.so)) (c_Ap_back h.1)
theorem pr_wins {kd : ZK} {m : ZM} {st : ST} (h : JI kd m st) {x y a b : Int} : CtI 40 M_Ap_wins [(2, 0), (0, x), (0, y), (0, a), (0, b)] kd m (fun r1_q m1_q => CtI 40 M_Mo_wins [(2, 78), (0, x), (0, y), (0, a), (0, b)] kd m1_q (fun r2 m2_q => r1_q = r2 ∧ ∃ st2_q, JI kd m2_q st2_q)) :=
  CtI.mono (fun r1_q m1_q w => CtI.mono (fun r2 m2_q z => ⟨eq_q w.1 z.1, st, h.rd w.2 (z.2)⟩) (c_Mo_wins (MB.g (h.hi w.2) h.so.1))) (c_Ap_wins h.1)
theorem pr_weight {kd : ZK} {m : ZM} {st : ST} (h : JI kd m st) {x y : Int} : CtI 40 M_Ap_weight [(2, 0), (0, x), (0, y)] kd m (fun r1_q m1_q => CtI 40 M_Mo_weight [(2, 78), (0, x), (0, y)] kd m1_q (fun r2 m2_q => r1_q = r2 ∧ ∃ st2_q, JI kd m2_q st2_q)) :=
  CtI.mono (fun r1_q m1_q w => CtI.mono (fun r2 m2_q z => ⟨eq_q w.1 z.1, st, h.rd w.2 (z.2)⟩) (c_Mo_weight (MB.g (h.hi w.2) h.so.1))) (c_Ap_weight h.1)
theorem pr_worth {kd : ZK} {m : ZM} {st : ST} (h : JI kd m st) {w : Int} : CtI 40 M_Ap_worth [(2, 0), (0, w)] kd m (fun r1_q m1_q => CtI 40 M_Mo_worth [(2, 78), (0, w)] kd m1_q (fun r2 m2_q => r1_q = r2 ∧ ∃ st2_q, JI kd m2_q st2_q)) :=
  CtI.mono (fun r1_q m1_q w => CtI.mono (fun r2 m2_q z => ⟨pWorth_eq w.1 z.1, st, h.rd w.2 (z.2)⟩) (c_Mo_worth (MB.g (h.hi w.2) h.so.1))) (c_Ap_worth h.1)
theorem pr_sure {kd : ZK} {m : ZM} {st : ST} (h : JI kd m st) {p : Int} : CtI 40 M_Ap_sure [(2, 0), (0, p)] kd m (fun r1_q m1_q => CtI 40 M_Mo_sure [(2, 78), (0, p)] kd m1_q (fun r2 m2_q => r1_q = r2 ∧ ∃ st2_q, JI kd m2_q st2_q)) :=
  CtI.mono (fun r1_q m1_q w => CtI.mono (fun r2 m2_q z => ⟨pSure_eq w.1 z.1, st, h.rd w.2 (z.2)⟩) (c_Mo_sure (MB.g (h.hi w.2) h.so.1))) (c_Ap_sure h.1)
theorem pr_play {kd : ZK} {m : ZM} {st : ST} (h : JI kd m st) {y z : Int} (z1 : zin32 y) (z2 : zin32 z) : CtI 40 M_Ap_play [(2, 0), (0, y), (0, z)] kd m (fun r1_q m1_q => CtI 40 M_Mo_play [(2, 78), (0, y), (0, z)] kd m1_q (fun r2 m2_q => r1_q = r2 ∧ ∃ st2_q, JI kd m2_q st2_q)) :=
  CtI.mono (fun r1_q m1_q w => CtI.mono (fun r2 m2_q z => ⟨eq_q w.1 z.1, st, h.rd w.2 (z.2)⟩) (c_Mo_play (MB.g (h.hi w.2) h.so.1) z1 z2)) (c_Ap_play h.1 z1 z2)
theorem pr_hangs {kd : ZK} {m : ZM} {st : ST} (h : JI kd m st) {y z : Int} (z1 : zin32 y) : CtI 40 M_Ap_hangs [(2, 0), (0, y), (0, z)] kd m (fun r1_q m1_q => CtI 40 M_Mo_hangs [(2, 78), (0, y), (0, z)] kd m1_q (fun r2 m2_q => r1_q = r2 ∧ ∃ st2_q, JI kd m2_q st2_q)) :=
  CtI.mono (fun r1_q m1_q w => CtI.mono (fun r2 m2_q z => ⟨eq_q w.1 z.1, st, h.rd w.2 (z.2)⟩) (c_Mo_hangs (MB.g (h.hi w.2) h.so.1) z1)) (c_Ap_hangs h.1 z1)
theorem pr_reply {kd : ZK} {m : ZM} {st : ST} (h : JI kd m st) {p z : Int} (z1 : zin32 z) : CtI 40 M_Ap_reply [(2, 0), (0, p), (0, z)] kd m (fun r1_q m1_q => CtI 40 M_Mo_reply [(2, 78), (0, p), (0, z)] kd m1_q (fun r2 m2_q => r1_q = r2 ∧ ∃ st2_q, JI kd m2_q st2_q)) :=
  CtI.mono (fun r1_q m1_q w => CtI.mono (fun r2 m2_q z => ⟨eq_q w.1 z.1, st, h.rd w.2 (z.2)⟩) (c_Mo_reply (MB.g (h.hi w.2) h.so.1) z1)) (c_Ap_reply h.1 z1)
theorem pr_bests {kd : ZK} {m : ZM} {st : ST} (h : JI kd m st) : CtL 40 M_Ap_bests [(2, 0)] kd m (fun r1_q m1_q => CtL 40 M_Mo_bests [(2, 78)] kd m1_q (fun r2 m2_q => r1_q = r2 ∧ ∃ st2_q, JI kd m2_q st2_q)) :=
  CtL.mono (fun r1_q m1_q w => CtL.mono (fun r2 m2_q z => ⟨pBests_eq w.1 z.1, st, h.rd w.2 (z.2)⟩) (c_Mo_bests (MB.g (h.hi w.2) h.so.1))) (c_Ap_bests h.1)
theorem pr_best {kd : ZK} {m : ZM} {st : ST} (h : JI kd m st) {k p : Int} (z1 : zin32 k) : CtI 40 M_Ap_best [(2, 0), (0, k), (0, p)] kd m (fun r1_q m1_q => CtI 40 M_Mo_best [(2, 78), (0, k), (0, p)] kd m1_q (fun r2 m2_q => r1_q = r2 ∧ ∃ st2_q, JI kd m2_q st2_q)) :=
  CtI.mono (fun r1_q m1_q w => CtI.mono (fun r2 m2_q z => ⟨pBest_eq h.so.1 w.1 z.1, st, h.rd w.2 (z.2)⟩) (c_Mo_best (MB.g (h.hi w.2) h.so.1) z1)) (c_Ap_best h.1 z1)
theorem pr_lost {kd : ZK} {m : ZM} {st : ST} (h : JI kd m st) {y z : Int} : CtL 40 M_Ap_lost [(2, 0), (0, y), (0, z)] kd m (fun r1_q m1_q => CtL 40 M_Mo_lost [(2, 78), (0, y), (0, z)] kd m1_q (fun r2 m2_q => r1_q = r2 ∧ ∃ st2_q, JI kd m2_q st2_q)) :=
  CtL.mono (fun r1_q m1_q w => CtL.mono (fun r2 m2_q z => ⟨pLost_eq w.1 z.1, st, h.rd w.2 (z.2)⟩) (c_Mo_lost (MB.g (h.hi w.2) h.so.1))) (c_Ap_lost h.1)
theorem pr_mean {kd : ZK} {m : ZM} {st : ST} (h : JI kd m st) {w : Int} : CtL 40 M_Ap_mean [(2, 0), (0, w)] kd m (fun r1_q m1_q => CtL 40 M_Mo_mean [(2, 78), (0, w)] kd m1_q (fun r2 m2_q => r1_q = r2 ∧ ∃ st2_q, JI kd m2_q st2_q)) :=
  CtL.mono (fun r1_q m1_q w => CtL.mono (fun r2 m2_q z => ⟨eq_q w.1 z.1, st, h.rd w.2 (MF.eq z.2)⟩) (c_Mo_mean (MB.g (h.hi w.2) h.so.1))) (c_Ap_mean h.1)
theorem pr_talk {kd : ZK} {m : ZM} {st : ST} (h : JI kd m st) {w : Int} : CtI 40 M_Ap_talk [(2, 0), (0, w)] kd m (fun r1_q m1_q => CtI 40 M_Mo_talk [(2, 78), (0, w)] kd m1_q (fun r2 m2_q => r1_q = r2 ∧ ∃ st2_q, JI kd m2_q st2_q)) :=
  CtI.mono (fun r1_q m1_q w => CtI.mono (fun r2 m2_q z => ⟨eq_q w.1 z.1, st, h.rd w.2 (z.2)⟩) (c_Mo_talk (MB.g (h.hi w.2) h.so.1))) (c_Ap_talk h.1)
theorem pr_without {kd : ZK} {m : ZM} {st : ST} (h : JI kd m st) {p q : Int} : CtI 40 M_Ap_without [(2, 0), (0, p), (0, q)] kd m (fun r1_q m1_q => CtI 40 M_Mo_without [(2, 78), (0, p), (0, q)] kd m1_q (fun r2 m2_q => r1_q = r2 ∧ ∃ st2_q, JI kd m2_q st2_q)) :=
  CtI.mono (fun r1_q m1_q w => CtI.mono (fun r2 m2_q z => ⟨pWithout_eq w.1 z.1, st, h.rd w.2 (z.2)⟩) (c_Mo_without (MB.g (h.hi w.2) h.so.1) h.2.2.1)) (c_Ap_without h.1 h.2.2.1)
theorem pr_lesser {kd : ZK} {m : ZM} {st : ST} (h : JI kd m st) {p q a e : Int} : CtI 40 M_Ap_lesser [(2, 0), (0, p), (0, q), (0, a), (0, e)] kd m (fun r1_q m1_q => CtI 40 M_Mo_lesser [(2, 78), (0, p), (0, q), (0, a), (0, e)] kd m1_q (fun r2 m2_q => r1_q = r2 ∧ ∃ st2_q, JI kd m2_q st2_q)) :=
  CtI.mono (fun r1_q m1_q w => CtI.mono (fun r2 m2_q z => ⟨eq_q w.1 z.1, st, h.rd w.2 (MF.eq z.2)⟩) (c_Mo_lesser (MB.g (h.hi w.2) h.so.1))) (c_Ap_lesser h.1)
theorem pr_same {kd : ZK} {m : ZM} {st : ST} (h : JI kd m st) {p x y : Int} : CtI 40 M_Ap_same [(2, 0), (0, p), (0, x), (0, y)] kd m (fun r1_q m1_q => CtI 40 M_Mo_same [(2, 78), (0, p), (0, x), (0, y)] kd m1_q (fun r2 m2_q => r1_q = r2 ∧ ∃ st2_q, JI kd m2_q st2_q)) :=
  CtI.mono (fun r1_q m1_q w => CtI.mono (fun r2 m2_q z => ⟨eq_q w.1 z.1, st, h.rd w.2 (MF.eq z.2)⟩) (c_Mo_same (MB.g (h.hi w.2) h.so.1))) (c_Ap_same h.1)
theorem pr_climb {kd : ZK} {m : ZM} {st : ST} (h : JI kd m st) {y z w : Int} (z1 : zin32 y) (z2 : zin32 z) : CtI 40 M_Ap_climb [(2, 0), (0, y), (0, z), (0, w)] kd m (fun r1_q m1_q => CtI 40 M_Mo_climb [(2, 78), (0, y), (0, z), (0, w)] kd m1_q (fun r2 m2_q => r1_q = r2 ∧ ∃ st2_q, JI kd m2_q st2_q)) :=
  CtI.mono (fun r1_q m1_q w => CtI.mono (fun r2 m2_q z => ⟨pClimb_eq w.1 z.1, st, h.rd w.2 (z.2)⟩) (c_Mo_climb (MB.g (h.hi w.2) h.so.1) z1 z2)) (c_Ap_climb h.1 z1 z2)
theorem pr_cut {kd : ZK} {m : ZM} {st : ST} (h : JI kd m st) {y z : Int} : CtI 40 M_Ap_cut [(2, 0), (0, y), (0, z)] kd m (fun r1_q m1_q => CtI 40 M_Mo_cut [(2, 78), (0, y), (0, z)] kd m1_q (fun r2 m2_q => r1_q = r2 ∧ ∃ st2_q, JI kd m2_q st2_q)) :=
  CtI.mono (fun r1_q m1_q w => CtI.mono (fun r2 m2_q z => ⟨pCut_eq w.1 z.1, st, h.rd w.2 (z.2)⟩) (c_Mo_cut (MB.g (h.hi w.2) h.so.1))) (c_Ap_cut h.1)
theorem pr_parts {kd : ZK} {m : ZM} {st : ST} (h : JI kd m st) {w : Int} : CtI 40 M_Ap_parts [(2, 0), (0, w)] kd m (fun r1_q m1_q => CtI 40 M_Mo_parts [(2, 78), (0, w)] kd m1_q (fun r2 m2_q => r1_q = r2 ∧ ∃ st2_q, JI kd m2_q st2_q)) :=
  CtI.mono (fun r1_q m1_q w => CtI.mono (fun r2 m2_q z => ⟨pParts_eq w.1 z.1, st, h.rd w.2 (z.2)⟩) (c_Mo_parts (MB.g (h.hi w.2) h.so.1))) (c_Ap_parts h.1)
theorem pr_sign {kd : ZK} {m : ZM} {st : ST} (h : JI kd m st) {x y : Int} : CtI 40 M_Ap_sign [(2, 0), (0, x), (0, y)] kd m (fun r1_q m1_q => CtI 40 M_Mo_sign_2 [(2, 78), (0, x), (0, y)] kd m1_q (fun r2 m2_q => r1_q = r2 ∧ ∃ st2_q, JI kd m2_q st2_q)) :=
  CtI.mono (fun r1_q m1_q w => CtI.mono (fun r2 m2_q z => ⟨eq_q w.1 z.1, st, h.rd w.2 (z.2)⟩) (c_Mo_sign_2 (MB.g (h.hi w.2) h.so.1))) (c_Ap_sign h.1)
theorem pr_bias {kd : ZK} {m : ZM} {st : ST} (h : JI kd m st) {w : Int} : CtI 40 M_Ap_bias [(2, 0), (0, w)] kd m (fun r1_q m1_q => CtI 40 M_Mo_bias [(2, 78), (0, w)] kd m1_q (fun r2 m2_q => r1_q = r2 ∧ ∃ st2_q, JI kd m2_q st2_q)) :=
  CtI.mono (fun r1_q m1_q w => CtI.mono (fun r2 m2_q z => ⟨pBias_eq w.1 z.1, st, h.rd w.2 (z.2)⟩) (c_Mo_bias (MB.g (h.hi w.2) h.so.1))) (c_Ap_bias h.1)
theorem pr_twice {kd : ZK} {m : ZM} {st : ST} (h : JI kd m st) {w : Int} : CtI 40 M_Ap_twice [(2, 0), (0, w)] kd m (fun r1_q m1_q => CtI 40 M_Mo_twice [(2, 78), (0, w)] kd m1_q (fun r2 m2_q => r1_q = r2 ∧ ∃ st2_q, JI kd m2_q st2_q)) :=
  CtI.mono (fun r1_q m1_q w => CtI.mono (fun r2 m2_q z => ⟨pTwice_eq w.1 z.1, st, h.rd w.2 (z.2)⟩) (c_Mo_twice (MB.g (h.hi w.2) h.so.1))) (c_Ap_twice h.1)
theorem pr_product {kd : ZK} {m : ZM} {st : ST} (h : JI kd m st) : CtI 40 M_Ap_product [(2, 0)] kd m (fun r1_q m1_q => CtI 40 M_Mo_product [(2, 78)] kd m1_q (fun r2 m2_q => r1_q = r2 ∧ ∃ st2_q, JI kd m2_q st2_q)) :=
  CtI.mono (fun r1_q m1_q w => CtI.mono (fun r2 m2_q z => ⟨pProd_eq w.1 z.1, st, h.rd w.2 (z.2)⟩) (c_Mo_product (MB.g (h.hi w.2) h.so.1))) (c_Ap_product h.1)
theorem pr_boxed {kd : ZK} {m : ZM} {st : ST} (h : JI kd m st) {w : Int} : CtI 40 M_Ap_boxed [(2, 0), (0, w)] kd m (fun r1_q m1_q => CtI 40 M_Mo_boxed [(2, 78), (0, w)] kd m1_q (fun r2 m2_q => r1_q = r2 ∧ ∃ st2_q, JI kd m2_q st2_q)) :=
  CtI.mono (fun r1_q m1_q w => CtI.mono (fun r2 m2_q z => ⟨pBoxed_eq w.1 z.1, st, h.rd w.2 (z.2)⟩) (c_Mo_boxed (MB.g (h.hi w.2) h.so.1))) (c_Ap_boxed h.1)
theorem pr_marginal {kd : ZK} {m : ZM} {st : ST} (h : JI kd m st) {p q a e : Int} : CtI 40 M_Ap_marginal [(2, 0), (0, p), (0, q), (0, a), (0, e)] kd m (fun r1_q m1_q => CtI 40 M_Mo_marginal [(2, 78), (0, p), (0, q), (0, a), (0, e)] kd m1_q (fun r2 m2_q => r1_q = r2 ∧ ∃ st2_q, JI kd m2_q st2_q)) :=
  CtI.mono (fun r1_q m1_q w => CtI.mono (fun r2 m2_q z => ⟨eq_q w.1 z.1, st, h.rd w.2 (z.2)⟩) (c_Mo_marginal (MB.g (h.hi w.2) h.so.1))) (c_Ap_marginal h.1)
theorem pr_symmetries {kd : ZK} {m : ZM} {st : ST} (h : JI kd m st) : CtI 40 M_Ap_symmetries [(2, 0)] kd m (fun r1_q m1_q => CtI 40 M_Mo_symmetries [(2, 78)] kd m1_q (fun r2 m2_q => r1_q = r2 ∧ ∃ st2_q, JI kd m2_q st2_q)) :=
  CtI.mono (fun r1_q m1_q w => CtI.mono (fun r2 m2_q z => ⟨eq_q w.1 z.1, st, h.rd w.2 (z.2)⟩) (c_Mo_symmetries (MB.g (h.hi w.2) h.so.1))) (c_Ap_symmetries h.1)
theorem pr_letter {kd : ZK} {m : ZM} {st : ST} (h : JI kd m st) {k : Int} : CtI 40 M_Ap_letter [(2, 0), (0, k)] kd m (fun r1_q m1_q => CtI 40 M_Mo_letter [(2, 78), (0, k)] kd m1_q (fun r2 m2_q => r1_q = r2 ∧ ∃ st2_q, JI kd m2_q st2_q)) :=
  CtI.mono (fun r1_q m1_q w => CtI.mono (fun r2 m2_q z => ⟨pLetter_eq w.1 z.1, st, h.rd w.2 (z.2)⟩) (c_Mo_letter (MB.g (h.hi w.2) h.so.1))) (c_Ap_letter h.1)
theorem pr_count {kd : ZK} {m : ZM} {st : ST} (h : JI kd m st) {w : Int} : CtI 40 M_Ap_count [(2, 0), (0, w)] kd m (fun r1_q m1_q => CtI 40 M_Mo_count [(2, 78), (0, w)] kd m1_q (fun r2 m2_q => r1_q = r2 ∧ ∃ st2_q, JI kd m2_q st2_q)) :=
  CtI.mono (fun r1_q m1_q w => CtI.mono (fun r2 m2_q z => ⟨pCount_eq w.1 z.1, st, h.mj w.2 z.2 h.2.2⟩) (c_Mo_count (h.hi w.2) h.so)) (c_Ap_count h.1)
