section HOUSE2
variable {σ : St} {S : HS}
def CH (a j : Nat) : Prop := (a = 3 ∧ 1 ≤ j ∧ j ≤ 4) ∨ (75 ≤ a ∧ a ≤ 90)
theorem CFH_CH {a j : Nat} (h : CFH a j) : CH a j := by unfold CFH TcF H75 at h; unfold CH; omega
def XK (a j : Nat) : Prop := XH a j ∨ a = 106
theorem tape_ex {m : Nat} (R : Rest σ m) : ∃ t T, Tb T t ∧ σ.1 3 1 = nI t ∧ σ.1 93 16 = nI t ∧ ∀ i, i < 250 → σ.1 4 i = nI (T i) ∧ σ.1 103 i = nI (T i) := by
  obtain ⟨-, -, -, ⟨t, t1, t2, t3⟩, d, -⟩ := R
  refine ⟨t, fun i => if i < 250 then (σ.1 103 i).toNatClampNeg else 0, ⟨t1, fun i => ?_⟩, t2, t3, fun i hi => ?_⟩
  · show (if i < 250 then (σ.1 103 i).toNatClampNeg else 0) ≤ 255
    by_cases q : i < 250
    · obtain ⟨-, v, hv, e⟩ := d i q
      rw [if_pos q, e, nI_clamp (by omega)]
      exact hv
    · rw [if_neg q]; omega
  · obtain ⟨e0, v, hv, e⟩ := d i hi
    have : σ.1 103 i = nI (if i < 250 then (σ.1 103 i).toNatClampNeg else 0) := by
      rw [if_pos hi, e, nI_clamp (by omega)]
    exact ⟨e0.trans this, this⟩
theorem op_house (H : Sm σ S) : Agr (fun s => f_X5_house s 0) (fun s => f_X6_house s 93) σ := by
  obtain ⟨hc, hm, I, R⟩ := id H
  obtain ⟨r0, -, ⟨-, -, -, z0, z1, -⟩, -, -, -⟩ := id R
  obtain ⟨t, T, hT, t2, t3, tt⟩ := tape_ex R
  obtain ⟨σ1, a1, a2, a3⟩ := c_take (x := 75) (y := 39) isH75 isH39 (by decide) hc z0 z1
  have tcs : Tc (setI σ1 3 4 0) T t := ⟨by rw [setI_k (by decide), a3.1 _ _ (by omega), t2], fun i hi => by rw [setI_a (by decide), a3.1 _ _ (by omega), (tt i hi).1]⟩
  obtain ⟨σ2, b1, b2', b3⟩ := c_next (e := 0) hT (Nat.zero_le _) tcs (setI_s _ _ _ _)
  have hC75 : HC σ2 75 S := (a2.t75 (Fr.i (by unfold TcF; omega))).t75 b3
  have f2 : Fr CH σ σ2 := ((a3.w fun a j z => by unfold CH; omega).t (Fr.i (by unfold CH; omega))).t (b3.w fun a j z => CFH_CH (TcF_C z))
  have modl : ∀ μ, Fr (fun a j => CH a j ∨ (39 ≤ a ∧ a ≤ 54) ∨ (a = 1 ∧ j = 0)) σ μ → ∃ ν, f_X6_house μ 93 = f_X6_house_l17 FU ν 93 0 1 ∧ Tm ν T t ∧ HM ν S ∧ ν.1 93 18 = nI 0 ∧ HK ν 106 S ∧ Fr XK μ ν := by
    intro μ F
    have hm1 : HM μ S := hm.fr (F.w fun a j z => by unfold CH at z; unfold MF; omega)
    obtain ⟨ν, k1, k2, k3⟩ := m_keep hm1 (Or.inr rfl)
    refine ⟨setI ν 93 18 0, ?_, ⟨?_, fun i hi => ?_⟩, (hm1.fr (k3.w fun a j z => by unfold MF; omega)).fr (Fr.i (by unfold MF; omega)), setI_s _ _ _ _, k2.fr (Fr.i (P := fun a _ => a = 93) rfl) (fun j z => by omega), (k3.w fun a j z => Or.inr z).t (Fr.i (Or.inl (by unfold XH; omega)))⟩
    · unfold f_X6_house
      rw [k1, bind_s, ptI_s, bind_s]
    · rw [setI_k (by decide), k3.1 _ _ (by omega), F.1 _ _ (by unfold CH; omega), t3]
    · rw [setI_a (by decide), k3.1 _ _ (by omega), F.1 _ _ (by unfold CH; omega), (tt i hi).2]
  have xk : ∀ a j, XK a j → RH a j := fun a j z => by unfold XK XH at z; unfold RH RF; omega
  have main : HL T t 0 S S 3999 1 := hs_l hT 3999 1 (by decide) (by decide) 0 S (Nat.zero_le _) (by decide) (by decide) I
  rcases main with ⟨r, U', I', hn, hr, g1, g2⟩ | ⟨pf, hp, g1, g2⟩
  · obtain ⟨σ3, c1, c2, c3⟩ := g1 σ2 (tcs.fr b3) hC75 b2'
    have f4 : Fr CH σ (setI σ3 3 1 0) := (f2.t (c3.w fun a j z => CFH_CH z)).t (Fr.i (by unfold CH; omega))
    obtain ⟨σ5, d1, d2, d3⟩ := c_take (σ := setI σ3 3 1 0) (x := 39) (y := 75) isH39 isH75 (by decide) (c2.fr (Fr.i (P := fun a _ => a = 3) rfl) (fun a j u v z => by omega)) (by rw [f4.1 _ _ (by unfold CH; omega)]; exact hc.2.2.2.2.1) (by rw [f4.1 _ _ (by unfold CH; omega)]; exact hc.2.2.2.2.2)
    have f5 : Fr (fun a j => CH a j ∨ (39 ≤ a ∧ a ≤ 54) ∨ (a = 1 ∧ j = 0)) σ σ5 := (f4.w fun a j z => Or.inl z).t (d3.w fun a j z => by omega)
    obtain ⟨ν, m1, m2, m3, m4, m5, m6⟩ := modl σ5 f5
    obtain ⟨σ8, w1, w2, w3, w4⟩ := g2 ν m2 m3 m4 m5
    have f8 : Fr XK σ5 σ8 := m6.t (w4.w fun a j z => Or.inl z)
    have e31 : σ8.1 3 1 = 0 := by rw [f8.1 _ _ (by unfold XK XH; omega), d3.1 _ _ (by omega), setI_s]
    have fA : Fr (fun a j => CH a j ∨ (39 ≤ a ∧ a ≤ 54) ∨ XK a j) σ σ8 := ((f4.w fun a j z => Or.inl z).t (d3.w fun a j z => Or.inr (Or.inl ⟨z.1, by omega⟩))).t (f8.w fun a j z => Or.inr (Or.inr z))
    have fR : Fr RH σ σ8 := fA.w fun a j z => by unfold CH XK XH at z; unfold RH RF; omega
    refine ⟨nI r, σ5, σ8, ?_, ?_, U', d2.cf (f8.w fun a j z => by unfold XK XH at z; unfold CF; omega), w2, I', R.hs hn fR e31 w3 ?_⟩
    · show f_X5_house σ 0 = _
      unfold f_X5_house f_X3_readInto
      rw [a1, bind_s, ptI_s, bind_s, b1, bind_s, show f_X3_readInto_l11 FU σ2 3 75 1 = some (nI r, σ3) from c1, b2_s, ptI_s, bind_s, if_neg (nm1_ne r (by omega)), d1, bind_s]
    · show f_X6_house σ5 93 = _
      rw [m1]
      exact w1
    · rw [fA.1 1 0 (by unfold CH XK XH; omega), fA.1 104 2 (by unfold CH XK XH; omega)]
      exact r0 0 (by decide)
  · obtain ⟨σ3, c1, c2, c3⟩ := g1 σ2 (tcs.fr b3) hC75 b2'
    have f4 : Fr CH σ (setI σ3 3 1 0) := (f2.t (c3.w fun a j z => CFH_CH z)).t (Fr.i (by unfold CH; omega))
    have f5 : Fr (fun a j => CH a j ∨ (39 ≤ a ∧ a ≤ 54) ∨ (a = 1 ∧ j = 0)) σ (R1 (setI σ3 3 1 0) 0) := (f4.w fun a j z => Or.inl z).t (Fr.i (by omega))
    obtain ⟨ν, m1, m2, m3, m4, m5, m6⟩ := modl (R1 (setI σ3 3 1 0) 0) f5
    obtain ⟨σ8, w1, w2, w3, w4⟩ := g2 ν m2 m3 m4 m5
    have f8 : Fr XK (R1 (setI σ3 3 1 0) 0) σ8 := m6.t (w4.w fun a j z => Or.inl z)
    have e31 : (R2 σ8 0).1 3 1 = 0 := by
      unfold R2
      rw [setI_a (by decide), f8.1 _ _ (by unfold XK XH; omega)]
      unfold R1
      rw [setI_a (by decide), setI_s]
    have e16 : (R2 σ8 0).1 93 16 = 0 := by
      unfold R2
      rw [setI_a (by decide)]
      exact w3
    have ea : (R2 σ8 0).1 1 0 = σ.1 1 0 + 1 := by
      unfold R2
      rw [setI_a (by decide), f8.1 _ _ (by unfold XK XH; omega)]
      unfold R1
      rw [setI_s, f4.1 _ _ (by unfold CH; omega)]
    have eb : (R2 σ8 0).1 104 2 = σ.1 104 2 + 1 := by
      unfold R2
      rw [setI_s, f8.1 _ _ (by unfold XK XH; omega), f5.1 _ _ (by unfold CH; omega)]
    have fA : Fr RH σ (R2 σ8 0) := ((f5.w fun a j z => by unfold CH at z; unfold RH RF; omega).t (f8.w xk)).t (Fr.i (by unfold RH; omega))
    have fC : Fr CF σ (R2 σ8 0) := (((f4.w fun a j z => by unfold CH at z; unfold CF; omega).t (Fr.i (P := CF) (σ := setI σ3 3 1 0) (a := 1) (k := 0) (by unfold CF; omega))).t (f8.w fun a j z => by unfold XK XH at z; unfold CF; omega)).t (Fr.i (by unfold CF; omega))
    refine ⟨-20 - nI pf, R1 (setI σ3 3 1 0) 0, R2 σ8 0, ?_, ?_, S, hc.cf fC, w2.fr (Fr.i (by unfold MF; omega)), I, R.hs (Nat.le_refl _) fA e31 e16 (by rw [ea, eb, r0 0 (by decide)])⟩
    · show f_X5_house σ 0 = _
      have e33 : (R1 (setI σ3 3 1 0) 0).1 3 3 = nI pf := by
        unfold R1
        rw [setI_a (by decide), setI_k (by decide), c2]
      unfold f_X5_house f_X3_readInto
      rw [a1, bind_s, ptI_s, bind_s, b1, bind_s, show f_X3_readInto_l11 FU σ2 3 75 1 = some (-1, σ3) from c1, b2_s, ptI_s, bind_s, if_pos rfl, ref_2, b2_s, e33]
    · show f_X6_house _ 93 = _
      rw [m1]
      exact w1
end HOUSE2
