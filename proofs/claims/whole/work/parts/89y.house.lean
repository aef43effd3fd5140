/-! a whole house from the tape -/
def XH (a j : Nat) : Prop := (a = 93 ∧ j ≠ 23) ∨ (97 ≤ a ∧ a ≤ 102)
theorem XF_H {a j : Nat} (h : XF a j) : XH a j := by unfold XF at h; unfold XH; omega
section HOUSE
variable {T : Nat → Nat} {n : Nat} {S : HS}
/-- the model gives up -/
theorem m_up (f : Nat) {σ : St} (c : Int32) {pf : Nat} (hk : HK σ 106 S) (h19 : σ.1 93 19 = nI pf) : ∃ σ', f_X6_house_l17 (f + 1) σ 93 c 0 = some (-20 - nI pf, R2 σ' 0) ∧ HM σ' S ∧ σ'.1 93 16 = 0 ∧ Fr XH σ σ' := by
  obtain ⟨σ1, u1, u2, u3⟩ := m_again hk (Or.inr rfl)
  refine ⟨setI σ1 93 16 0, ?_, u2.fr (Fr.i (by unfold MF; omega)), setI_s _ _ _ _, (u3.w fun a j z => by unfold AgF at z; unfold XH; omega).t (Fr.i (by unfold XH; omega))⟩
  have e : (R2 (setI σ1 93 16 0) 0).1 93 19 = nI pf := by
    unfold R2
    rw [setI_a (by decide), setI_k (by decide), u3.1 _ _ (by unfold AgF; omega), h19]
  show f_X6_house_b17 (f_X6_house_l17 f) σ 93 c 0 = _
  unfold f_X6_house_b17
  rw [if_pos rfl, u1, bind_s, ptI_s, bind_s, nof_2, b2_s, e]
theorem m_stp (f : Nat) {σ σ1 : St} {m : Nat} (hm : 1 ≤ m) (h : (f_X6_next σ 93).bind (fun s => f_X6_statement s 93) = some (1, σ1)) : f_X6_house_l17 (f + 1) σ 93 (nI (m - 1)) 1 = if σ1.1 93 20 = 0 then some (nI m, setI σ1 93 16 0) else if σ1.1 93 20 = 3 then f_X6_house_l17 f σ1 93 (nI m) 1 else f_X6_house_l17 f σ1 93 (nI m) 0 := by
  show f_X6_house_b17 (f_X6_house_l17 f) σ 93 (nI (m - 1)) 1 = _
  unfold f_X6_house_b17
  rw [if_neg (show ¬ (1 : Int32) = 0 by decide)]
  refine (bn_b2 (f_X6_next σ 93) (fun s => f_X6_statement s 93) _).symm.trans ?_
  rw [h, b2_s, if_neg (show ¬ (1 : Int32) = 0 by decide), nI_1, bind_s, Nat.sub_add_cancel hm]
  unfold f_X6_house_b37 f_X6_house_b55 f_X6_house_b71 f_X6_house_b72
  rw [if_neg (show ¬ (1 : Int32) = 0 by decide), if_neg (show ¬ (1 : Int32) = 0 by decide), ptI_s, bind_s]
theorem m_stn (f : Nat) {σ σ1 : St} {c : Int32} (h : (f_X6_next σ 93).bind (fun s => f_X6_statement s 93) = some (0, σ1)) : f_X6_house_l17 (f + 1) σ 93 c 1 = f_X6_house_l17 f σ1 93 c 0 := by
  show f_X6_house_b17 (f_X6_house_l17 f) σ 93 c 1 = _
  unfold f_X6_house_b17
  rw [if_neg (show ¬ (1 : Int32) = 0 by decide)]
  refine (bn_b2 (f_X6_next σ 93) (fun s => f_X6_statement s 93) _).symm.trans ?_
  rw [h, b2_s, if_pos rfl]
  rfl
theorem c_stp (f : Nat) {σ σ1 : St} {m : Nat} (hm : m ≤ 250) (h : f_X3_readStatement σ 3 75 = some (1, σ1)) : f_X3_readInto_l11 (f + 1) σ 3 75 (nI m) = if σ1.1 3 2 = 0 then some (nI m, σ1) else if σ1.1 3 2 = 3 then (f_X3_toNextToken σ1 3).bind (fun s => f_X3_readInto_l11 f s 3 75 (nI (m + 1))) else some (-1, σ1) := by
  show f_X3_readInto_b11 (f_X3_readInto_l11 f) σ 3 75 (nI m) = _
  unfold f_X3_readInto_b11
  rw [if_neg (show ¬ (250 : Int32) < nI m from fun z => by have := (nI_ltI (a := 250) (b := m) (by decide) (by omega)).mp z; omega), h, b2_s, if_neg (by decide), nI_1]
  rfl
theorem c_stn (f : Nat) {σ σ1 : St} {m : Nat} (hm : m ≤ 250) (h : f_X3_readStatement σ 3 75 = some (0, σ1)) : f_X3_readInto_l11 (f + 1) σ 3 75 (nI m) = some (-1, σ1) := by
  show f_X3_readInto_b11 (f_X3_readInto_l11 f) σ 3 75 (nI m) = _
  unfold f_X3_readInto_b11
  rw [if_neg (show ¬ (250 : Int32) < nI m from fun z => by have := (nI_ltI (a := 250) (b := m) (by decide) (by omega)).mp z; omega), h, b2_s, if_pos rfl]
def HL (T : Nat → Nat) (n e : Nat) (U S : HS) (f m : Nat) : Prop :=
  (∃ r U', Inv U' ∧ nk U ≤ nk U' ∧ r ≤ 250 ∧ (∀ σ, Tc σ T n → HC σ 75 U → CT σ T n e → ∃ σ', f_X3_readInto_l11 (f + 1) σ 3 75 (nI m) = some (nI r, σ') ∧ HC σ' 75 U' ∧ Fr CFH σ σ') ∧ ∀ σ, Tm σ T n → HM σ U → σ.1 93 18 = nI e → HK σ 106 S → ∃ σ', f_X6_house_l17 (f + 1) σ 93 (nI (m - 1)) 1 = some (nI r, σ') ∧ HM σ' U' ∧ σ'.1 93 16 = 0 ∧ Fr XH σ σ') ∨
  ∃ pf, pf ≤ 250 ∧ (∀ σ, Tc σ T n → HC σ 75 U → CT σ T n e → ∃ σ', f_X3_readInto_l11 (f + 1) σ 3 75 (nI m) = some (-1, σ') ∧ σ'.1 3 3 = nI pf ∧ Fr CFH σ σ') ∧ ∀ σ, Tm σ T n → HM σ U → σ.1 93 18 = nI e → HK σ 106 S → ∃ σ', f_X6_house_l17 (f + 1) σ 93 (nI (m - 1)) 1 = some (-20 - nI pf, R2 σ' 0) ∧ HM σ' S ∧ σ'.1 93 16 = 0 ∧ Fr XH σ σ'
theorem HK.xf {σ σ' : St} (h : HK σ 106 S) (f : Fr XF σ σ') : HK σ' 106 S := h.fr f (fun j z => by unfold XF at z; omega)
theorem hs_l (hT : Tb T n) : ∀ f m, m ≤ 251 → 251 - m < f → ∀ e U, e ≤ n → m ≤ e + 1 → 1 ≤ m → Inv U → HL T n e U S f m := by
  have hn := hT.1
  refine lp_up (P := fun f m => ∀ e U, e ≤ n → m ≤ e + 1 → 1 ≤ m → Inv U → HL T n e U S f m) 251 (fun f e U he h1 h2 I => ?_) (fun f m hm ih e U he h1 h2 I => ?_)
  · have hp := tp_le (T := T) he
    have t0 : tc T n e = 0 := by
      unfold tc
      rw [if_neg (by omega)]
    refine Or.inr ⟨tp T n e, by omega, fun σ x1 x2 x3 => ⟨σ, ?_, x3.2.1, Fr.r _⟩, fun σ x1 x2 x3 x4 => ?_⟩
    · show f_X3_readInto_b11 (f_X3_readInto_l11 (f + 1)) σ 3 75 (nI 251) = _
      unfold f_X3_readInto_b11
      rw [if_pos (by decide)]
    · obtain ⟨σ1, u1, u2, u3⟩ := m_next hT he x1 x3
      have hs : f_X6_statement σ1 93 = some (0, σ1) := by
        rw [m_st hT he (x1.fr u3) (x2.tm u3) I u2]
        simp [mR0, mR1, mR2, mR3, mR5, mR8, wd_0 (T := T) (n := n) (e := e) (show tc T n e ≠ 1 by omega)]
      obtain ⟨σ2, w1, w2, w3, w4⟩ := m_up (S := S) f (nI (251 - 1)) (x4.xf (u3.w fun _ _ => TmF_X)) u2.2.1
      refine ⟨σ2, ?_, w2, w3, (u3.w fun _ _ z => XF_H (TmF_X z)).t w4⟩
      rw [m_stn (f + 1) (σ1 := σ1) (bind_e u1 hs)]
      exact w1
  · rcases RS.syn hT he (st_RS hT he I) with ⟨e', U', I', hk, d1, e1, g1, g2⟩ | ⟨pf, a, g1, g2⟩
    · have hq := tq_le (T := T) e1
      have hp := tp_le (T := T) e1
      have c4 := tc_4 T n e'
      by_cases t0 : tc T n e' = 0
      · refine Or.inl ⟨m, U', I', hk, by omega, fun σ x1 x2 x3 => ?_, fun σ x1 x2 x3 x4 => ?_⟩
        · obtain ⟨σ1, u1, u2, u3, u4⟩ := g1 σ x1 x2 x3
          refine ⟨σ1, ?_, u2, u4⟩
          rw [c_stp (f + 1) (by omega) u1, u3.1, t0, if_pos (show nI 0 = 0 from rfl)]
        · obtain ⟨σ1, u1, u2, u3, u4⟩ := g2 σ x1 x2 x3
          refine ⟨setI σ1 93 16 0, ?_, u2.fr (Fr.i (by unfold MF; omega)), setI_s _ _ _ _, (u4.w fun _ _ => XF_H).t (Fr.i (by unfold XH; omega))⟩
          rw [m_stp (f + 1) h2 u1, u3.2.2.1, t0, if_pos (show cdI 0 = 0 by decide)]
      · by_cases t3 : tc T n e' = 3
        · have hlt := hq.2.2 t0
          rcases ih (tq T n e') U' hq.2.1 (by omega) (by omega) I' with ⟨r, U2, I2, n2, r2, k1, k2⟩ | ⟨pf, a, k1, k2⟩
          · refine Or.inl ⟨r, U2, I2, by omega, r2, fun σ x1 x2 x3 => ?_, fun σ x1 x2 x3 x4 => ?_⟩
            · obtain ⟨σ1, u1, u2, u3, u4⟩ := g1 σ x1 x2 x3
              obtain ⟨σ2, v1, v2, v3⟩ := c_next hT hq.2.1 (x1.f2 u4) u3.2.2
              obtain ⟨σ3, w1, w2, w3⟩ := k1 σ2 ((x1.f2 u4).fr v3) (u2.t75 v3) v2
              refine ⟨σ3, ?_, w2, (u4.t (v3.w fun _ _ => TcF_C)).t w3⟩
              rw [c_stp (f + 1) (by omega) u1, u3.1, t3, if_neg (show ¬ nI 3 = 0 by decide), if_pos (show nI 3 = 3 from rfl), v1, bind_s]
              exact w1
            · obtain ⟨σ1, u1, u2, u3, u4⟩ := g2 σ x1 x2 x3
              obtain ⟨σ2, w1, w2, w3, w4⟩ := k2 σ1 (x1.f2 u4) u2 u3.1 (x4.xf u4)
              refine ⟨σ2, ?_, w2, w3, (u4.w fun _ _ => XF_H).t w4⟩
              rw [m_stp (f + 1) h2 u1, u3.2.2.1, t3, if_neg (show ¬ cdI 3 = 0 by decide), if_pos (show cdI 3 = 3 by decide)]
              exact w1
          · refine Or.inr ⟨pf, a, fun σ x1 x2 x3 => ?_, fun σ x1 x2 x3 x4 => ?_⟩
            · obtain ⟨σ1, u1, u2, u3, u4⟩ := g1 σ x1 x2 x3
              obtain ⟨σ2, v1, v2, v3⟩ := c_next hT hq.2.1 (x1.f2 u4) u3.2.2
              obtain ⟨σ3, w1, w2, w3⟩ := k1 σ2 ((x1.f2 u4).fr v3) (u2.t75 v3) v2
              refine ⟨σ3, ?_, w2, (u4.t (v3.w fun _ _ => TcF_C)).t w3⟩
              rw [c_stp (f + 1) (by omega) u1, u3.1, t3, if_neg (show ¬ nI 3 = 0 by decide), if_pos (show nI 3 = 3 from rfl), v1, bind_s]
              exact w1
            · obtain ⟨σ1, u1, u2, u3, u4⟩ := g2 σ x1 x2 x3
              obtain ⟨σ2, w1, w2, w3, w4⟩ := k2 σ1 (x1.f2 u4) u2 u3.1 (x4.xf u4)
              refine ⟨σ2, ?_, w2, w3, (u4.w fun _ _ => XF_H).t w4⟩
              rw [m_stp (f + 1) h2 u1, u3.2.2.1, t3, if_neg (show ¬ cdI 3 = 0 by decide), if_pos (show cdI 3 = 3 by decide)]
              exact w1
        · refine Or.inr ⟨tp T n e', by omega, fun σ x1 x2 x3 => ?_, fun σ x1 x2 x3 x4 => ?_⟩
          · obtain ⟨σ1, u1, u2, u3, u4⟩ := g1 σ x1 x2 x3
            refine ⟨σ1, ?_, u3.2.1, u4⟩
            rw [c_stp (f + 1) (by omega) u1, u3.1, if_neg (show ¬ nI (tc T n e') = 0 from fun z => t0 (nI_inj (a := tc T n e') (b := 0) (by omega) (by decide) z)), if_neg (show ¬ nI (tc T n e') = 3 from fun z => t3 (nI_inj (a := tc T n e') (b := 3) (by omega) (by decide) z))]
          · obtain ⟨σ1, u1, u2, u3, u4⟩ := g2 σ x1 x2 x3
            obtain ⟨σ2, w1, w2, w3, w4⟩ := m_up (S := S) f (nI m) (x4.xf u4) u3.2.1
            refine ⟨σ2, ?_, w2, w3, (u4.w fun _ _ => XF_H).t w4⟩
            rw [m_stp (f + 1) h2 u1, u3.2.2.1, if_neg (show ¬ cdI (tc T n e') = 0 from fun z => t0 ((cdI_n (k := 0) c4 (by decide)).mp z)), if_neg (show ¬ cdI (tc T n e') = 3 from fun z => t3 ((cdI_n (k := 3) c4 (by decide)).mp z))]
            exact w1
    · refine Or.inr ⟨pf, a, fun σ x1 x2 x3 => ?_, fun σ x1 x2 x3 x4 => ?_⟩
      · obtain ⟨σ1, u1, u2, u3⟩ := g1 σ x1 x2 x3
        exact ⟨σ1, c_stn (f + 1) (by omega) u1, u2, u3⟩
      · obtain ⟨σ1, u1, u2, u3⟩ := g2 σ x1 x2 x3
        obtain ⟨σ2, w1, w2, w3, w4⟩ := m_up (S := S) f (nI (m - 1)) (x4.xf u3) u2
        refine ⟨σ2, ?_, w2, w3, (u3.w fun _ _ => XF_H).t w4⟩
        rw [m_stn (f + 1) u1]
        exact w1
end HOUSE
def RH (a j : Nat) : Prop := RF a j ∨ (a = 3 ∧ j = 1) ∨ (a = 93 ∧ j = 16) ∨ (a = 1 ∧ j = 0) ∨ (a = 104 ∧ j = 2)
theorem Rest.hs {σ σ' : St} {m m' : Nat} (R : Rest σ m) (hm : m ≤ m') (f : Fr RH σ σ') (e1 : σ'.1 3 1 = 0) (e2 : σ'.1 93 16 = 0) (e3 : σ'.1 1 0 = σ'.1 104 2) : Rest σ' m' := by
  refine Rest.mono (n := m) ?_ hm
  obtain ⟨a, b, ⟨c0, c1, c2, c3, c4, c5⟩, -, d, g⟩ := R
  refine ⟨fun i hi => ?_, fun s hs => ?_, ⟨?_, ?_, ?_, ?_, ?_, fun j hj => ?_⟩, ⟨0, by omega, e1, e2⟩, fun i hi => ?_, ?_⟩
  · by_cases q : i = 0
    · rw [q]; exact e3
    · rw [f.1 1 i (by unfold RH RF; omega), f.1 104 (i + 2) (by unfold RH RF; omega)]; exact a i hi
  · have := b s hs
    unfold Shv at this ⊢
    rw [f.1 (21 + 2 * s) 0 (by unfold RH RF; omega), f.1 94 s (by unfold RH RF; omega), f.1 (21 + 2 * s) 1 (by unfold RH RF; omega), f.1 95 s (by unfold RH RF; omega), f.2]
    exact this
  · rw [f.1 _ _ (by unfold RH RF; omega)]; exact c0
  · rw [f.1 _ _ (by unfold RH RF; omega)]; exact c1
  · rw [f.1 _ _ (by unfold RH RF; omega)]; exact c2
  · rw [f.1 _ _ (by unfold RH RF; omega)]; exact c3
  · rw [f.1 _ _ (by unfold RH RF; omega)]; exact c4
  · rw [f.1 _ _ (by unfold RH RF; omega)]; exact c5 j hj
  · rw [f.1 4 i (by unfold RH RF; omega), f.1 103 i (by unfold RH RF; omega)]; exact d i hi
  · unfold Img at g ⊢
    rw [f.1 0 8 (by unfold RH RF; omega), f.1 93 23 (by unfold RH RF; omega)]
    rcases g with g | ⟨g1, g2, S, g3, g4, g5⟩
    · exact Or.inl g
    · exact Or.inr ⟨g1, g2, S, g3.fr f (fun a j u v z => by unfold RH RF at z; omega), g4.fr f (fun j z => by unfold RH RF at z; omega), g5⟩
