/-! a fork is added to the draft -/
section FRF
variable {fr : Int → Int} {u ch d0 d1 d2 d3 : Int}
theorem frF_h (hm : 0 ≤ fr 0 ∧ fr 0 < 40) (hu : 0 ≤ u ∧ u < fr 0) (h7 : 0 ≤ w_of fr u 7 ∧ w_of fr u 7 < 5) : frF fr u ch d0 d1 d2 d3 0 = fr 0 + 1 ∧ (∀ i, (1 ≤ i ∧ i < 16) ∨ 536 ≤ i → frF fr u ch d0 d1 d2 d3 i = fr i) := by
  generalize hh : w_of fr u 7 = h at h7
  generalize hf : w_of fr u 6 = g
  generalize hmm : fr 0 = m at hm hu
  unfold frF
  rw [hh, hf, hmm]
  refine ⟨up_eq, fun i hi => ?_⟩
  rw [up_ne (by omega), up_ne (by omega), up_ne (by omega), up_ne (by omega), up_ne (by omega), up_ne (by omega), up_ne (by omega), up_ne (by omega), up_ne (by omega), up_ne (by omega), up_ne (by omega)]
theorem frF_m (hm : 0 ≤ fr 0 ∧ fr 0 < 40) (hu : 0 ≤ u ∧ u < fr 0) (h7 : 0 ≤ w_of fr u 7 ∧ w_of fr u 7 < 5) : w_of (frF fr u ch d0 d1 d2 d3) (fr 0) 0 = u ∧ w_of (frF fr u ch d0 d1 d2 d3) (fr 0) 1 = ch ∧ w_of (frF fr u ch d0 d1 d2 d3) (fr 0) 2 = d0 ∧ w_of (frF fr u ch d0 d1 d2 d3) (fr 0) 3 = d1 ∧ w_of (frF fr u ch d0 d1 d2 d3) (fr 0) 4 = d2 ∧ w_of (frF fr u ch d0 d1 d2 d3) (fr 0) 5 = d3 ∧ w_of (frF fr u ch d0 d1 d2 d3) (fr 0) 6 = w_of fr u 6 + 1 ∧ w_of (frF fr u ch d0 d1 d2 d3) (fr 0) 7 = 0 := by
  generalize hh : w_of fr u 7 = h at h7
  generalize hf : w_of fr u 6 = g
  generalize hmm : fr 0 = m at hm hu
  unfold frF
  rw [hh, hf, hmm]
  unfold w_of
  refine ⟨?_, ?_, ?_, ?_, ?_, ?_, ?_, ?_⟩
  · rw [up_ne (by omega), up_ne (by omega), up_ne (by omega), up_ne (by omega), up_ne (by omega), up_ne (by omega), up_eq]
  · rw [up_ne (by omega), up_ne (by omega), up_ne (by omega), up_ne (by omega), up_ne (by omega), up_eq]
  · rw [up_ne (by omega), up_ne (by omega), up_ne (by omega), up_ne (by omega), up_ne (by omega), up_ne (by omega), up_ne (by omega), up_ne (by omega), up_ne (by omega), up_ne (by omega), up_eq]
  · rw [up_ne (by omega), up_ne (by omega), up_ne (by omega), up_ne (by omega), up_ne (by omega), up_ne (by omega), up_ne (by omega), up_ne (by omega), up_ne (by omega), up_eq]
  · rw [up_ne (by omega), up_ne (by omega), up_ne (by omega), up_ne (by omega), up_ne (by omega), up_ne (by omega), up_ne (by omega), up_ne (by omega), up_eq]
  · rw [up_ne (by omega), up_ne (by omega), up_ne (by omega), up_ne (by omega), up_ne (by omega), up_ne (by omega), up_ne (by omega), up_eq]
  · rw [up_ne (by omega), up_ne (by omega), up_ne (by omega), up_ne (by omega), up_eq]
  · rw [up_ne (by omega), up_ne (by omega), up_ne (by omega), up_eq]
theorem frF_u (hm : 0 ≤ fr 0 ∧ fr 0 < 40) (hu : 0 ≤ u ∧ u < fr 0) (h7 : 0 ≤ w_of fr u 7 ∧ w_of fr u 7 < 5) : w_of (frF fr u ch d0 d1 d2 d3) u 7 = w_of fr u 7 + 1 ∧ w_of (frF fr u ch d0 d1 d2 d3) u (8 + w_of fr u 7) = fr 0 ∧ ∀ g k, 0 ≤ g → g < fr 0 → 0 ≤ k → k < 13 → ¬ (g = u ∧ (k = 7 ∨ k = 8 + w_of fr u 7)) → w_of (frF fr u ch d0 d1 d2 d3) g k = w_of fr g k := by
  have ew : ∀ g k, w_of fr g k = fr (16 + 13 * g + k) := fun _ _ => rfl
  generalize hh : w_of fr u 7 = h at h7
  generalize hf : w_of fr u 6 = q
  generalize hmm : fr 0 = m at hm hu
  unfold frF
  rw [hh, hf, hmm]
  refine ⟨?_, ?_, fun g k g0 g1 k0 k1 z => ?_⟩
  · unfold w_of
    rw [up_ne (by omega), up_eq]
  · unfold w_of
    rw [show 16 + 13 * u + (8 + h) = 16 + 13 * u + 8 + h by omega, up_ne (by omega), up_ne (by omega), up_eq]
  · rw [ew]
    unfold w_of
    rw [up_ne (by omega), up_ne (by omega), up_ne (by omega), up_ne (by omega), up_ne (by omega), up_ne (by omega), up_ne (by omega), up_ne (by omega), up_ne (by omega), up_ne (by omega), up_ne (by omega)]
theorem frF_w (h : dW fr) (hm : 0 < fr 0 ∧ fr 0 < 40) (hy : mayF fr u) (hc : 1 ≤ ch ∧ ch ≤ 100) (e0 : 0 ≤ d0 ∧ d0 ≤ 99) (e1 : 0 ≤ d1 ∧ d1 ≤ 20) (e2 : 0 ≤ d2 ∧ d2 ≤ 99) (e3 : 0 ≤ d3 ∧ d3 ≤ 20) : dW (frF fr u ch d0 d1 d2 d3) := by
  obtain ⟨hd, hz, hr⟩ := h
  have hw : wf fr ∧ ∀ f, 0 ≤ f → f < fr 0 → w_of fr f 2 ≤ 99 := hr.resolve_left (fun z => by omega)
  have ou := wf_f hw.1 hy.1.1 hy.1.2
  unfold wf_one at ou
  have h7 : 0 ≤ w_of fr u 7 ∧ w_of fr u 7 < 5 := by
    have := hy.2.2
    omega
  obtain ⟨F0, Fh⟩ := frF_h (ch := ch) (d0 := d0) (d1 := d1) (d2 := d2) (d3 := d3) (by omega) hy.1 h7
  obtain ⟨m0, m1, m2, m3, m4, m5, m6, m7⟩ := frF_m (ch := ch) (d0 := d0) (d1 := d1) (d2 := d2) (d3 := d3) (by omega) hy.1 h7
  obtain ⟨u7, u8, Fo⟩ := frF_u (ch := ch) (d0 := d0) (d1 := d1) (d2 := d2) (d3 := d3) (by omega) hy.1 h7
  generalize hW : frF fr u ch d0 d1 d2 d3 = W at F0 Fh m0 m1 m2 m3 m4 m5 m6 m7 u7 u8 Fo
  have hy2 := hy.2
  have kids : ∀ g, 0 ≤ g → g < fr 0 → w_of W g 7 = if g = u then w_of fr u 7 + 1 else w_of fr g 7 := by
    intro g g0 g1
    by_cases z : g = u
    · rw [if_pos z, z]
      exact u7
    · rw [if_neg z]
      exact Fo g 7 g0 g1 (by omega) (by omega) (fun y => z y.1)
  have kid : ∀ g i, 0 ≤ g → g < fr 0 → 0 ≤ i → i < w_of fr g 7 → w_of W g (8 + i) = w_of fr g (8 + i) := by
    intro g i g0 g1 i0 i1
    have og := wf_f hw.1 g0 g1
    unfold wf_one at og
    refine Fo g (8 + i) g0 g1 (by omega) (by omega) (fun y => ?_)
    rw [y.1] at i1
    omega
  refine ⟨?_, fun i hi => ?_, Or.inr ⟨⟨?_, fun f f0 f1 => ?_⟩, fun f f0 f1 => ?_⟩⟩
  · unfold dHd at hd ⊢
    rw [Fh 1 (by omega), Fh 2 (by omega), Fh 3 (by omega), Fh 4 (by omega), Fh 5 (by omega), Fh 6 (by omega)]
    exact hd
  · rw [Fh i (by omega)]
    exact hz i hi
  · unfold dHd at hd
    unfold wf_hdr
    rw [F0, Fh 1 (by omega), Fh 2 (by omega), Fh 3 (by omega), Fh 4 (by omega), Fh 5 (by omega), Fh 6 (by omega)]
    omega
  · rw [F0] at f1
    by_cases z : f = fr 0
    · rw [z]
      refine ⟨?_, fun i i0 i1 => ?_, fun i j i0 ij j1 => ?_, fun _ => ?_⟩
      · unfold wf_one
        rw [m0, m1, m2, m3, m4, m5, m6, m7]
        omega
      · rw [m7] at i1
        omega
      · rw [m7] at j1
        omega
      · rw [m0]
        exact ⟨w_of fr u 7, by omega, by rw [u7]; omega, u8⟩
    · have f1' : f < fr 0 := by omega
      have o := wf_f hw.1 f0 f1'
      unfold wf_one at o
      have kf := kids f f0 f1'
      have oth : ∀ k, 0 ≤ k → k ≤ 6 → w_of W f k = w_of fr f k := fun k k0 k6 => Fo f k f0 f1' k0 (by omega) (by omega)
      refine ⟨?_, fun i i0 i1 => ?_, fun i j i0 ij j1 => ?_, fun hp => ?_⟩
      · unfold wf_one
        rw [oth 0 (by omega) (by omega), oth 1 (by omega) (by omega), oth 2 (by omega) (by omega), oth 3 (by omega) (by omega), oth 4 (by omega) (by omega), oth 5 (by omega) (by omega), oth 6 (by omega) (by omega), kf]
        by_cases y : f = u
        · rw [if_pos y]
          rw [y] at o ⊢
          omega
        · rw [if_neg y]
          omega
      · by_cases y : f = u ∧ i = w_of fr u 7
        · rw [y.1, y.2, u8, m0, m6, F0]
          rw [y.1] at oth
          rw [oth 6 (by omega) (by omega)]
          omega
        · have i1' : i < w_of fr f 7 := by
            rw [kf] at i1
            by_cases yy : f = u
            · rw [if_pos yy] at i1
              rw [yy]
              omega
            · rw [if_neg yy] at i1
              exact i1
          have kk := wf_k hw.1 f0 f1' i0 i1'
          rw [kid f i f0 f1' i0 i1', F0, Fo _ 0 (by omega) kk.2.1 (by omega) (by omega) (by omega), Fo _ 6 (by omega) kk.2.1 (by omega) (by omega) (by omega), oth 6 (by omega) (by omega)]
          omega
      · have i1' : i < w_of fr f 7 := by
          rw [kf] at j1
          by_cases yy : f = u
          · rw [if_pos yy] at j1
            rw [yy]
            omega
          · rw [if_neg yy] at j1
            omega
        have kk := wf_k hw.1 f0 f1' i0 i1'
        rw [kid f i f0 f1' i0 i1']
        by_cases y : f = u ∧ j = w_of fr u 7
        · rw [y.1, y.2, u8]
          rw [y.1] at kk
          exact kk.2.1
        · have j1' : j < w_of fr f 7 := by
            rw [kf] at j1
            by_cases yy : f = u
            · rw [if_pos yy] at j1
              rw [yy]
              omega
            · rw [if_neg yy] at j1
              exact j1
          rw [kid f j f0 f1' (by omega) j1']
          exact wf_i hw.1 f0 f1' i0 ij j1'
      · obtain ⟨i, i0, i1, i2⟩ := wf_p hw.1 hp f1'
        have uu := wf_u hw.1 hp f1'
        rw [oth 0 (by omega) (by omega)]
        refine ⟨i, i0, ?_, ?_⟩
        · rw [kids _ uu.1 (by omega)]
          by_cases y : w_of fr f 0 = u
          · rw [if_pos y]
            rw [y] at i1
            omega
          · rw [if_neg y]
            exact i1
        · rw [kid _ i uu.1 (by omega) i0 i1]
          exact i2
  · rw [F0] at f1
    by_cases z : f = fr 0
    · rw [z, m2]
      omega
    · rw [Fo f 2 f0 (by omega) (by omega) (by omega) (by omega)]
      exact hw.2 f f0 (by omega)
end FRF
theorem frR_w {fr : Int → Int} {d0 d1 d2 d3 : Int} (h : dW fr) (hm : fr 0 = 0) (e0 : 0 ≤ d0 ∧ d0 ≤ 99) (e1 : 0 ≤ d1 ∧ d1 ≤ 20) (e2 : 0 ≤ d2 ∧ d2 ≤ 99) (e3 : 0 ≤ d3 ∧ d3 ≤ 20) : dW (frR fr d0 d1 d2 d3) ∧ frR fr d0 d1 d2 d3 0 = 1 ∧ (∀ i, 1 ≤ i → i < 16 → frR fr d0 d1 d2 d3 i = fr i) ∧ w_of (frR fr d0 d1 d2 d3) 0 0 = -1 ∧ w_of (frR fr d0 d1 d2 d3) 0 1 = 0 ∧ w_of (frR fr d0 d1 d2 d3) 0 2 = d0 ∧ w_of (frR fr d0 d1 d2 d3) 0 3 = d1 ∧ w_of (frR fr d0 d1 d2 d3) 0 4 = d2 ∧ w_of (frR fr d0 d1 d2 d3) 0 5 = d3 ∧ w_of (frR fr d0 d1 d2 d3) 0 6 = 0 ∧ w_of (frR fr d0 d1 d2 d3) 0 7 = 0 := by
  obtain ⟨hd, hz, hr⟩ := h
  have h0 : w_of fr 0 0 = -1 ∧ ∀ k, 1 ≤ k → k < 13 → w_of fr 0 k = 0 := (hr.resolve_right (fun z => by have := z.1.1.1; omega)).2
  have Fo : ∀ i, ¬ i = 0 → ¬ (18 ≤ i ∧ i ≤ 21) → frR fr d0 d1 d2 d3 i = fr i := by
    intro i i0 i1
    unfold frR
    rw [up_ne (by omega), up_ne (by omega), up_ne (by omega), up_ne (by omega), up_ne (by omega)]
  have F0 : frR fr d0 d1 d2 d3 0 = 1 := up_eq
  have f0 : w_of (frR fr d0 d1 d2 d3) 0 0 = -1 := (Fo _ (by omega) (by omega)).trans h0.1
  have f1 : w_of (frR fr d0 d1 d2 d3) 0 1 = 0 := (Fo _ (by omega) (by omega)).trans (h0.2 1 (by omega) (by omega))
  have f6 : w_of (frR fr d0 d1 d2 d3) 0 6 = 0 := (Fo _ (by omega) (by omega)).trans (h0.2 6 (by omega) (by omega))
  have f7 : w_of (frR fr d0 d1 d2 d3) 0 7 = 0 := (Fo _ (by omega) (by omega)).trans (h0.2 7 (by omega) (by omega))
  have f2 : w_of (frR fr d0 d1 d2 d3) 0 2 = d0 := by
    unfold w_of frR
    rw [up_ne (by omega), up_ne (by omega), up_ne (by omega), up_ne (by omega)]
    exact up_eq
  have f3 : w_of (frR fr d0 d1 d2 d3) 0 3 = d1 := by
    unfold w_of frR
    rw [up_ne (by omega), up_ne (by omega), up_ne (by omega)]
    exact up_eq
  have f4 : w_of (frR fr d0 d1 d2 d3) 0 4 = d2 := by
    unfold w_of frR
    rw [up_ne (by omega), up_ne (by omega)]
    exact up_eq
  have f5 : w_of (frR fr d0 d1 d2 d3) 0 5 = d3 := by
    unfold w_of frR
    rw [up_ne (by omega)]
    exact up_eq
  have Fh : ∀ i, 1 ≤ i → i < 16 → frR fr d0 d1 d2 d3 i = fr i := fun i i0 i1 => Fo i (by omega) (by omega)
  refine ⟨⟨?_, fun i hi => ?_, Or.inr ⟨⟨?_, fun f g0 g1 => ?_⟩, fun f g0 g1 => ?_⟩⟩, F0, Fh, f0, f1, f2, f3, f4, f5, f6, f7⟩
  · unfold dHd at hd ⊢
    rw [Fh 1 (by omega) (by omega), Fh 2 (by omega) (by omega), Fh 3 (by omega) (by omega), Fh 4 (by omega) (by omega), Fh 5 (by omega) (by omega), Fh 6 (by omega) (by omega)]
    exact hd
  · rw [Fo i (by omega) (by omega)]
    exact hz i hi
  · unfold dHd at hd
    unfold wf_hdr
    rw [F0, Fh 1 (by omega) (by omega), Fh 2 (by omega) (by omega), Fh 3 (by omega) (by omega), Fh 4 (by omega) (by omega), Fh 5 (by omega) (by omega), Fh 6 (by omega) (by omega)]
    omega
  · rw [F0] at g1
    have z : f = 0 := by omega
    rw [z]
    refine ⟨?_, fun i i0 i1 => ?_, fun i j i0 ij j1 => ?_, fun y => by omega⟩
    · unfold wf_one
      rw [f0, f1, f2, f3, f4, f5, f6, f7]
      omega
    · rw [f7] at i1
      omega
    · rw [f7] at j1
      omega
  · rw [F0] at g1
    have z : f = 0 := by omega
    rw [z, f2]
    omega
