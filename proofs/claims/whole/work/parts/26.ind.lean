/-! SOUND: the induction's step, and the whole of it. -/
section AMI
set_option maxHeartbeats 4000000 in
theorem am_Sd_F {f : am_Fn} (hf : am_Sd f) (hmn : am_Mn f) : am_Sd (am_F f) := by
  intro d j pc lo st hp hp' o h p l e R s m args below meth c H locs cells slots n0 t0 D B ad ls hC hj hlo hRf hRl hH hS hL hc0 hs0 hcb hsb
  obtain ⟨hx, hb, hml, hown, hret, hlk, hini, hex, hK, hN, hZ, hZ1, hZ2, hfl⟩ := id hC
  unfold am_F at h
  split at h
  · cases h
  · rename_i q hd
    split at h
    · rename_i hl
      obtain ⟨i, len⟩ := q
      dsimp only at h hl
      unfold am_G at h
      split at h
      · rename_i v hv
        cases h
        rw [show hp.length - n0 = cells by omega, show am_tot hp - t0 = slots by omega]
        exact am_W_ret hx hb hret hlk hH hS hd hl hv
      · split at h
        · rename_i j2 h2
          exact am_W_call hf hmn hC hj hlo hRf hRl hH hS hL hc0 hs0 hcb hsb hd hl h2 h
        · split at h
          · rename_i k hk
            cases h
            cases i <;> try (cases hk; done)
            rename_i ix
            obtain rfl : len = 3 := of_decide_eq_true hl
            simp only [am_th] at hk
            split at hk
            · rename_i k' ic hkx
              split at hk
              · rename_i hcond
                cases hk
                obtain ⟨hd4, rfl, hhd, e3, e4, e7⟩ := hcond
                have hhx : c.exceptionTable.toList = [] := by
                  have h9 := (am_hx_ok hj).1
                  rw [hhd] at h9
                  have h10 := List.map_eq_nil_iff.mp h9.symm
                  rw [h10] at hex
                  exact List.map_eq_nil_iff.mp hex
                have l1 : (hp ++ [(200 + k, List.replicate 6 Value.null)]).length = hp.length + 1 := by simp
                have l2 : am_tot (hp ++ [(200 + k, List.replicate 6 Value.null)]) = am_tot hp + 6 := by simp [am_tot]
                rw [l1] at hcb
                rw [l2] at hsb
                rw [l1, l2, show hp.length + 1 - n0 = cells + 1 by omega, show am_tot hp + 6 - t0 = slots + 6 by omega]
                rw [← hb] at hd e3 e4 e7
                exact am_W_thr hx hown hK hZ1 hZ2 hfl hhx hlk (by omega) (by omega) hH hS (hL.1.trans (hlo.trans hml.symm)) hkx hd e3 e4 e7 (by omega) (by omega)
              · cases hk
            · cases hk
          · split at h
            · rename_i q hq
              obtain ⟨g1, g2⟩ := hmn _ _ _ _ _ _ _ _ h |>.imp id And.left
              obtain ⟨m1, m2⟩ := am_nx_mono hq
              unfold am_nx at hq
              split at hq
              · rename_i q2 hq2
                cases hq
                refine am_W_pl hx hb hown (fun ix n z => ?_) (fun ix v z => ?_) hd hl hq2 hL (fun ls' hL' => ?_)
                · exact hK.1 _ (am_ldI_ok z) rfl args
                · exact hK.1 _ (am_ldL_ok z) rfl args
                · exact hf _ _ _ _ _ _ _ _ h hC hj ((am_pl_len hq2).trans hlo) hRf hRl hH hS hL' hc0 hs0 hcb hsb
              · split at hq
                · rename_i q2 hq2
                  cases hq
                  refine am_W_jp hx hb hd hl hq2 hL (fun ls' hL' => ?_)
                  exact hf _ _ _ _ _ _ _ _ h hC hj ((congrArg List.length (am_jp_len hq2)).trans hlo) hRf hRl hH hS hL' hc0 hs0 hcb hsb
                · refine am_W_hs hx hb (hml.trans hlo.symm) hown hini hK hZ (by omega) (by omega) hH hS hL hc0 hs0 hd hl hq (by omega) (by omega) (fun H1 locs1 cells1 slots1 ls1 k1 k2 k3 k4 k5 => ?_)
                  exact hf _ _ _ _ _ _ _ _ h hC hj ((congrArg List.length (am_hs_len hq)).trans hlo) hRf hRl k3 k4 k5 k1 k2 hcb hsb
            · cases h
    · cases h
theorem am_Sd_run : ∀ n, am_Sd (am_run n)
  | 0 => fun _ _ _ _ _ _ _ _ h => by cases h
  | n + 1 => am_Sd_F (am_Sd_run n) (am_Mn_run n)
end AMI
