/-! a static method of a class that has entries of its own (Math.floorMod) is called -/
section EVF
variable {X : Option (Nat × (Nat → Int))} {d : Nat} {M M2 : ZMeth} {mc ms mc2 ms2 pc : Nat} {ls st as : List ZV} {kd : ZK} {m : ZM} {Q Q2 : ZQ}
/-- a static method is called -/
theorem EvX.callSF {idx : Nat} (hd : decode M.2.1 pc = .ok (.invokestatic idx, 3)) (hlk : ZLk M.1.cls idx M2) (hok : Cond.code M2.1 M2.2.1 M2.2.2.1 M2.2.2.2 ∈ zWs ∧ Cond.initialized M2.1.cls ∈ zWs ∧ True ∧ (M2.1.cls ≠ "java/lang/invoke/MethodHandle" ∧ M2.1.cls ≠ "java/lang/invoke/VarHandle")) (hst : ZStat M2) (hpar : zpar M2 = some as.length) (hml : M2.2.2.1 ≤ 40) (hlen : (st.map zcat).sum ≤ 8)
    (hc : Ct d M2 mc2 ms2 as kd m Q2) (kk : ∀ (r : ZV) (kd' : ZK) (m' : ZM), Q2 r kd' m' → EvX X (d + 1) M mc ms (pc + 3) ls (zret r st) kd' m' Q) : EvX X (d + 1) M (mc + mc2) (ms + ms2) pc ls (as.reverse ++ st) kd m Q := by
  intro hm hl hs E p l e R s mi args below meth c H locs cells slots D A ad ca tys lsr Qs hF hR hX hZ hS hA hE hL hQ
  have hs2 : ∀ v ∈ st, zok kd v := fun v hv => hs v (List.mem_append_right _ hv)
  have has : ∀ v ∈ as, zok kd v := fun v hv => hs v (List.mem_append_left _ (List.mem_reverse.mpr hv))
  refine EvX.ret_of (aa := (zst E ad as).toArray) kk hl hs2 hF hR hX hZ hS hA hE hL hQ (zfree hZ hS hA) ?_
  have hM := hc hm has l E D ad ca tys H.size
  have hW : 2 * (F0 mi pc lsr (zst E ad (as.reverse ++ st))).monitorRoom + ((zst E ad st).map fun v => v.category).sum ≤ 8 := by
    have := zroom (E := E) (ad := ad) (st := st)
    show 2 * 0 + _ ≤ 8
    omega
  have hrm : (zRoom d mc2 ms2).frames + 1 ≤ R.frames ∧ 8 + (M2.2.2.1 + 11) + (zRoom d mc2 ms2).locals ≤ R.locals := by
    refine ⟨by show d + 1 ≤ _; omega, by show 8 + (M2.2.2.1 + 11) + 60 * d ≤ _; omega⟩
  have hzl : (zst E ad as).length = as.length := by simp [zst]
  rcases hlk with hlk | ⟨host, hlk⟩
  · exact va_runS (As := zst E ad as) (rest := zst E ad st) ⟨hF.1, hF.2.1, hF.2.2.1, hF.2.2.2.1, hF.2.2.2.2.1⟩ hM (va_cwS as.length hF.2.2.2.2.1 (zgood (fun w hw => by
      simp only [va_wsS, List.cons_append, List.nil_append, List.mem_cons] at hw
      rcases hw with rfl | rfl | rfl | rfl | hw
      · exact hlk
      · exact hst
      · exact hok.2.1
      · exact hok.1
      · exact hw)) rfl rfl rfl ⟨hok.2.2.2.1, hok.2.2.2.2, hpar⟩ hrm) (zpre hZ hS hA hE) rfl hzl hL.1 zst_rev hW hd ⟨by omega, by omega⟩
  · exact va_runSN (As := zst E ad as) (rest := zst E ad st) ⟨hF.1, hF.2.1, hF.2.2.1, hF.2.2.2.1, hF.2.2.2.2.1⟩ hM ⟨va_cnB as.length hF.2.2.2.2.1 (zgood (fun w hw => by
      rcases List.mem_cons.mp hw with rfl | hw
      · exact hok.1
      · exact hw)) rfl rfl rfl (hE.1 _ hlk) (hF.2.2.2.2.1 _ hok.2.1) ⟨hok.2.2.2.1, hok.2.2.2.2, hpar⟩ hrm, hF.2.2.2.2.1 _ hst, trivial⟩ (zpre hZ hS hA hE) rfl hzl hL.1 zst_rev hW hd ⟨by omega, by omega⟩
end EVF
theorem k_Math_floorMod : Cond.code M_Math_floorMod.1 M_Math_floorMod.2.1 M_Math_floorMod.2.2.1 M_Math_floorMod.2.2.2 ∈ zWs ∧ Cond.initialized M_Math_floorMod.1.cls ∈ zWs ∧ True ∧ (M_Math_floorMod.1.cls ≠ "java/lang/invoke/MethodHandle" ∧ M_Math_floorMod.1.cls ≠ "java/lang/invoke/VarHandle") := ⟨zmem6 (i := 144) rfl rfl, zmem1 (i := 14) rfl rfl, trivial, by decide, by decide⟩
