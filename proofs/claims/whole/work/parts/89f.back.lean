section AGAIN
variable {σ : St} {S : HS} {b : Nat}
def AgF (a j : Nat) : Prop := (a = 93 ∧ (j = 3 ∨ j = 4 ∨ j = 5 ∨ j = 6 ∨ j = 11 ∨ j = 14 ∨ j = 15)) ∨ (97 ≤ a ∧ a ≤ 102)
theorem AgF_i {σ : St} {a k : Nat} {v : Int32} (h : AgF a k) : Fr AgF σ (setI σ a k v) := Fr.i h
def agA (σ : St) (S : HS) (m : Nat) : Prop := ∀ k, k < m → σ.1 97 k = nI (ki S k) ∧ σ.1 98 k = nI (ow S k) ∧ σ.1 99 k = my S k
theorem HK.ag {σ1 : St} (H : HK σ b S) (hb : b = 105 ∨ b = 106) (f : Fr AgF σ σ1) : HK σ1 b S := H.fr f (fun j z => by unfold AgF at z; omega)
theorem m_again4 (H : HK σ b S) (hb : b = 105 ∨ b = 106) {σ1 : St} (f1 : Fr AgF σ σ1) (hA : agA σ1 S 6) (hB : ∀ j, j < 30 → σ1.1 100 j = σ.1 b (18 + j)) (hC : ∀ j, j < 8 → σ1.1 101 j = σ.1 b (48 + j)) : ∃ σ', f_X6_again_l101 FU σ1 93 b 0 = some σ' ∧ HM σ' S ∧ Fr AgF σ σ' := by
  have lb := ln_b hb
  have gen := lp_0 (P := fun n m => ∀ σ1, Fr AgF σ σ1 → agA σ1 S 6 → (∀ j, j < 30 → σ1.1 100 j = σ.1 b (18 + j)) → (∀ j, j < 8 → σ1.1 101 j = σ.1 b (48 + j)) → (∀ j, j < m → σ1.1 102 j = σ.1 b (56 + j)) → ∃ σ', f_X6_again_l101 n σ1 93 b (nI m) = some σ' ∧ HM σ' S ∧ Fr AgF σ σ') 40 (by omega) (fun n σ1 f1 hA hB hC hD => ?_) (fun n m hm ih σ1 f1 hA hB hC hD => ?_)
  · exact gen σ1 f1 hA hB hC (fun j hj => absurd hj (Nat.not_lt_zero j))
  · have H1 : HK σ1 b S := H.ag hb f1
    have l96 : ∀ (σ : St), ldI σ b 96 = some (σ.1 b 96) := fun σ => ldI_n (j := 96) (by omega)
    have l97 : ∀ (σ : St), ldI σ b 97 = some (σ.1 b 97) := fun σ => ldI_n (j := 97) (by omega)
    have l98 : ∀ (σ : St), ldI σ b 98 = some (σ.1 b 98) := fun σ => ldI_n (j := 98) (by omega)
    have l99 : ∀ (σ : St), ldI σ b 99 = some (σ.1 b 99) := fun σ => ldI_n (j := 99) (by omega)
    have l100 : ∀ (σ : St), ldI σ b 100 = some (σ.1 b 100) := fun σ => ldI_n (j := 100) (by omega)
    have l101 : ∀ (σ : St), ldI σ b 101 = some (σ.1 b 101) := fun σ => ldI_n (j := 101) (by omega)
    have l102 : ∀ (σ : St), ldI σ b 102 = some (σ.1 b 102) := fun σ => ldI_n (j := 102) (by omega)
    refine ⟨setI (setI (setI (setI (setI (setI (setI σ1 93 6 (nI (nk S))) 93 11 (nI (nl S))) 93 3 (nI (pl S))) 93 4 (nI (dp S))) 93 5 (nI (tg S))) 93 14 (co S)) 93 15 (se S), ?_, ?_, ?_⟩
    · show f_X6_again_b101 (f_X6_again_l101 n) _ _ _ _ = _; unfold f_X6_again_b101
      simp (disch := omega) only [nle, nlt, neq, neqm, nmeq, nlem, nI_add, pk_mul, nI_1, ne0, nl0, nk0, nt0, nu0, ne1, nl1, nk1, nt1, nu1, ne2, nl2, nk2, nt2, nu2, na2, nb2, ns2, ne3, nl3, nk3, nt3, nu3, na3, nb3, ns3, ne4, nl4, nk4, nt4, nu4, na4, nb4, ns4, ne5, nl5, nk5, nt5, nu5, na5, nb5, nm5, nn5, ns5, ne6, nl6, nk6, nt6, nu6, na6, nb6, ns6, ne7, nl7, nk7, nt7, nu7, na7, nb7, ns7, ne8, nl8, nk8, nt8, nu8, na8, nb8, ns8, ne9, nl9, nk9, nt9, nu9, na9, nb9, ns9, ne10, nl10, nk10, nt10, nu10, na10, nb10, nm10, nn10, ns10, ne16, nl16, nk16, nt16, nu16, na16, nb16, ns16, ne18, nl18, nk18, nt18, nu18, na18, nb18, ns18, ne20, nl20, nk20, nt20, nu20, na20, nb20, ns20, ne30, nl30, nk30, nt30, nu30, na30, nb30, ns30, ne32, nl32, nk32, nt32, nu32, na32, nb32, ns32, ne40, nl40, nk40, nt40, nu40, na40, nb40, nm40, nn40, ns40, ne48, nl48, nk48, nt48, nu48, na48, nb48, ns48, ne56, nl56, nk56, nt56, nu56, na56, nb56, ns56, ne57, nl57, nk57, nt57, nu57, na57, nb57, ns57, ne59, nl59, nk59, nt59, nu59, na59, nb59, ns59, ne96, nl96, nk96, nt96, nu96, na96, nb96, ns96, ne97, nl97, nk97, nt97, nu97, na97, nb97, ns97, ne98, nl98, nk98, nt98, nu98, na98, nb98, ns98, ne99, nl99, nk99, nt99, nu99, na99, nb99, ns99, ne100, nl100, nk100, nt100, nu100, na100, nb100, ns100, ne101, nl101, nk101, nt101, nu101, na101, nb101, ns101, ne102, nl102, nk102, nt102, nu102, na102, nb102, ns102, ne122, nl122, nk122, nt122, nu122, na122, nb122, ns122, ne250, nl250, nk250, nt250, nu250, na250, nb250, ns250, ne255, nl255, nk255, nt255, nu255, na255, nb255, ns255, ne1000, nl1000, nk1000, nt1000, nu1000, na1000, nb1000, ns1000, npred, opt_b, ite_true, ite_false, n10, n01, eq_self, Nat.le_refl, l96, l97, l98, l99, l100, l101, l102, ptI_s, setI_a (show b ≠ 93 by omega), H1.1.1, H1.1.2.1, H1.1.2.2.1, H1.1.2.2.2.1, H1.1.2.2.2.2.1, H1.1.2.2.2.2.2.1, H1.1.2.2.2.2.2.2]
    · have g : ∀ a j, a ≠ 93 → (setI (setI (setI (setI (setI (setI (setI σ1 93 6 (nI (nk S))) 93 11 (nI (nl S))) 93 3 (nI (pl S))) 93 4 (nI (dp S))) 93 5 (nI (tg S))) 93 14 (co S)) 93 15 (se S)).1 a j = σ1.1 a j := fun a j h => by
        rw [setI_a h, setI_a h, setI_a h, setI_a h, setI_a h, setI_a h, setI_a h]
      refine ⟨⟨?_, ?_, ?_, ?_, ?_, ?_, ?_⟩, fun k hk => ⟨?_, ?_, ?_⟩, fun k hk p hp => ?_, fun l hl => ?_, fun l hl p hp => ?_⟩
      · rw [setI_k (by decide), setI_k (by decide), setI_k (by decide), setI_k (by decide), setI_s]
      · rw [setI_k (by decide), setI_k (by decide), setI_k (by decide), setI_s]
      · rw [setI_k (by decide), setI_k (by decide), setI_s]
      · rw [setI_k (by decide), setI_k (by decide), setI_k (by decide), setI_k (by decide), setI_k (by decide), setI_k (by decide), setI_s]
      · rw [setI_k (by decide), setI_k (by decide), setI_k (by decide), setI_k (by decide), setI_k (by decide), setI_s]
      · rw [setI_k (by decide), setI_s]
      · rw [setI_s]
      · rw [g _ _ (by decide)]; exact (hA k hk).1
      · rw [g _ _ (by decide)]; exact (hA k hk).2.1
      · rw [g _ _ (by decide)]; exact (hA k hk).2.2
      · rw [g _ _ (by decide), hB _ (by omega)]; exact H.2.2.1 k hk p hp
      · rw [g _ _ (by decide), hC _ (by omega)]; exact H.2.2.2.1 l hl
      · rw [g _ _ (by decide), hD _ (by omega)]; exact H.2.2.2.2 l hl p hp
    · exact Fr.t (Fr.t (Fr.t (Fr.t (Fr.t (Fr.t (f1.t (AgF_i (by unfold AgF; omega))) (AgF_i (by unfold AgF; omega))) (AgF_i (by unfold AgF; omega))) (AgF_i (by unfold AgF; omega))) (AgF_i (by unfold AgF; omega))) (AgF_i (by unfold AgF; omega))) (AgF_i (by unfold AgF; omega))
  · have g : ∀ v a j, a ≠ 102 → (setI σ1 102 m v).1 a j = σ1.1 a j := fun v a j h => setI_a h
    obtain ⟨σ', u1, u2⟩ := ih (setI σ1 102 m (σ1.1 b (56 + m))) (f1.t (AgF_i (by unfold AgF; omega))) (fun k hk => by rw [g _ _ _ (by decide), g _ _ _ (by decide), g _ _ _ (by decide)]; exact hA k hk) (fun j hj => by rw [g _ _ _ (by decide)]; exact hB j hj) (fun j hj => by rw [g _ _ _ (by decide)]; exact hC j hj) (fun j hj => by
      by_cases e : j = m
      · rw [e, setI_s, f1.1 _ _ (by unfold AgF; omega)]
      · rw [setI_k e]; exact hD j (by omega))
    refine ⟨σ', ?_, u2⟩
    show f_X6_again_b101 (f_X6_again_l101 n) _ _ _ _ = _; unfold f_X6_again_b101
    simp (disch := omega) only [nle, nlt, neq, neqm, nmeq, nlem, nI_add, pk_mul, nI_1, ne0, nl0, nk0, nt0, nu0, ne1, nl1, nk1, nt1, nu1, ne2, nl2, nk2, nt2, nu2, na2, nb2, ns2, ne3, nl3, nk3, nt3, nu3, na3, nb3, ns3, ne4, nl4, nk4, nt4, nu4, na4, nb4, ns4, ne5, nl5, nk5, nt5, nu5, na5, nb5, nm5, nn5, ns5, ne6, nl6, nk6, nt6, nu6, na6, nb6, ns6, ne7, nl7, nk7, nt7, nu7, na7, nb7, ns7, ne8, nl8, nk8, nt8, nu8, na8, nb8, ns8, ne9, nl9, nk9, nt9, nu9, na9, nb9, ns9, ne10, nl10, nk10, nt10, nu10, na10, nb10, nm10, nn10, ns10, ne16, nl16, nk16, nt16, nu16, na16, nb16, ns16, ne18, nl18, nk18, nt18, nu18, na18, nb18, ns18, ne20, nl20, nk20, nt20, nu20, na20, nb20, ns20, ne30, nl30, nk30, nt30, nu30, na30, nb30, ns30, ne32, nl32, nk32, nt32, nu32, na32, nb32, ns32, ne40, nl40, nk40, nt40, nu40, na40, nb40, nm40, nn40, ns40, ne48, nl48, nk48, nt48, nu48, na48, nb48, ns48, ne56, nl56, nk56, nt56, nu56, na56, nb56, ns56, ne57, nl57, nk57, nt57, nu57, na57, nb57, ns57, ne59, nl59, nk59, nt59, nu59, na59, nb59, ns59, ne96, nl96, nk96, nt96, nu96, na96, nb96, ns96, ne97, nl97, nk97, nt97, nu97, na97, nb97, ns97, ne98, nl98, nk98, nt98, nu98, na98, nb98, ns98, ne99, nl99, nk99, nt99, nu99, na99, nb99, ns99, ne100, nl100, nk100, nt100, nu100, na100, nb100, ns100, ne101, nl101, nk101, nt101, nu101, na101, nb101, ns101, ne102, nl102, nk102, nt102, nu102, na102, nb102, ns102, ne122, nl122, nk122, nt122, nu122, na122, nb122, ns122, ne250, nl250, nk250, nt250, nu250, na250, nb250, ns250, ne255, nl255, nk255, nt255, nu255, na255, nb255, ns255, ne1000, nl1000, nk1000, nt1000, nu1000, na1000, nb1000, ns1000, npred, opt_b, ite_true, ite_false, n10, n01, eq_self, show ¬ 40 ≤ m by omega]
    exact bind_e (ldI_n (by omega)) (bind_e (stI_n (by rw [ln102]; exact hm)) u1)
theorem m_again3 (H : HK σ b S) (hb : b = 105 ∨ b = 106) {σ1 : St} (f1 : Fr AgF σ σ1) (hA : agA σ1 S 6) (hB : ∀ j, j < 30 → σ1.1 100 j = σ.1 b (18 + j)) : ∃ σ', f_X6_again_l75 FU σ1 93 b 0 = some σ' ∧ HM σ' S ∧ Fr AgF σ σ' := by
  have lb := ln_b hb
  have gen := lp_0 (P := fun n m => ∀ σ1, Fr AgF σ σ1 → agA σ1 S 6 → (∀ j, j < 30 → σ1.1 100 j = σ.1 b (18 + j)) → (∀ j, j < m → σ1.1 101 j = σ.1 b (48 + j)) → ∃ σ', f_X6_again_l75 n σ1 93 b (nI m) = some σ' ∧ HM σ' S ∧ Fr AgF σ σ') 8 (by omega) (fun n σ1 f1 hA hB hC => ?_) (fun n m hm ih σ1 f1 hA hB hC => ?_)
  · exact gen σ1 f1 hA hB (fun j hj => absurd hj (Nat.not_lt_zero j))
  · obtain ⟨σ', u1, u2⟩ := m_again4 H hb f1 hA hB hC
    refine ⟨σ', ?_, u2⟩
    show f_X6_again_b75 (f_X6_again_l75 n) _ _ _ _ = _; unfold f_X6_again_b75
    simp (disch := omega) only [nle, nlt, neq, neqm, nmeq, nlem, nI_add, pk_mul, nI_1, ne0, nl0, nk0, nt0, nu0, ne1, nl1, nk1, nt1, nu1, ne2, nl2, nk2, nt2, nu2, na2, nb2, ns2, ne3, nl3, nk3, nt3, nu3, na3, nb3, ns3, ne4, nl4, nk4, nt4, nu4, na4, nb4, ns4, ne5, nl5, nk5, nt5, nu5, na5, nb5, nm5, nn5, ns5, ne6, nl6, nk6, nt6, nu6, na6, nb6, ns6, ne7, nl7, nk7, nt7, nu7, na7, nb7, ns7, ne8, nl8, nk8, nt8, nu8, na8, nb8, ns8, ne9, nl9, nk9, nt9, nu9, na9, nb9, ns9, ne10, nl10, nk10, nt10, nu10, na10, nb10, nm10, nn10, ns10, ne16, nl16, nk16, nt16, nu16, na16, nb16, ns16, ne18, nl18, nk18, nt18, nu18, na18, nb18, ns18, ne20, nl20, nk20, nt20, nu20, na20, nb20, ns20, ne30, nl30, nk30, nt30, nu30, na30, nb30, ns30, ne32, nl32, nk32, nt32, nu32, na32, nb32, ns32, ne40, nl40, nk40, nt40, nu40, na40, nb40, nm40, nn40, ns40, ne48, nl48, nk48, nt48, nu48, na48, nb48, ns48, ne56, nl56, nk56, nt56, nu56, na56, nb56, ns56, ne57, nl57, nk57, nt57, nu57, na57, nb57, ns57, ne59, nl59, nk59, nt59, nu59, na59, nb59, ns59, ne96, nl96, nk96, nt96, nu96, na96, nb96, ns96, ne97, nl97, nk97, nt97, nu97, na97, nb97, ns97, ne98, nl98, nk98, nt98, nu98, na98, nb98, ns98, ne99, nl99, nk99, nt99, nu99, na99, nb99, ns99, ne100, nl100, nk100, nt100, nu100, na100, nb100, ns100, ne101, nl101, nk101, nt101, nu101, na101, nb101, ns101, ne102, nl102, nk102, nt102, nu102, na102, nb102, ns102, ne122, nl122, nk122, nt122, nu122, na122, nb122, ns122, ne250, nl250, nk250, nt250, nu250, na250, nb250, ns250, ne255, nl255, nk255, nt255, nu255, na255, nb255, ns255, ne1000, nl1000, nk1000, nt1000, nu1000, na1000, nb1000, ns1000, npred, opt_b, ite_true, ite_false, n10, n01, eq_self, Nat.le_refl]
    exact u1
  · have g : ∀ v a j, a ≠ 101 → (setI σ1 101 m v).1 a j = σ1.1 a j := fun v a j h => setI_a h
    obtain ⟨σ', u1, u2⟩ := ih (setI σ1 101 m (σ1.1 b (48 + m))) (f1.t (AgF_i (by unfold AgF; omega))) (fun k hk => by rw [g _ _ _ (by decide), g _ _ _ (by decide), g _ _ _ (by decide)]; exact hA k hk) (fun j hj => by rw [g _ _ _ (by decide)]; exact hB j hj) (fun j hj => by
      by_cases e : j = m
      · rw [e, setI_s, f1.1 _ _ (by unfold AgF; omega)]
      · rw [setI_k e]; exact hC j (by omega))
    refine ⟨σ', ?_, u2⟩
    show f_X6_again_b75 (f_X6_again_l75 n) _ _ _ _ = _; unfold f_X6_again_b75
    simp (disch := omega) only [nle, nlt, neq, neqm, nmeq, nlem, nI_add, pk_mul, nI_1, ne0, nl0, nk0, nt0, nu0, ne1, nl1, nk1, nt1, nu1, ne2, nl2, nk2, nt2, nu2, na2, nb2, ns2, ne3, nl3, nk3, nt3, nu3, na3, nb3, ns3, ne4, nl4, nk4, nt4, nu4, na4, nb4, ns4, ne5, nl5, nk5, nt5, nu5, na5, nb5, nm5, nn5, ns5, ne6, nl6, nk6, nt6, nu6, na6, nb6, ns6, ne7, nl7, nk7, nt7, nu7, na7, nb7, ns7, ne8, nl8, nk8, nt8, nu8, na8, nb8, ns8, ne9, nl9, nk9, nt9, nu9, na9, nb9, ns9, ne10, nl10, nk10, nt10, nu10, na10, nb10, nm10, nn10, ns10, ne16, nl16, nk16, nt16, nu16, na16, nb16, ns16, ne18, nl18, nk18, nt18, nu18, na18, nb18, ns18, ne20, nl20, nk20, nt20, nu20, na20, nb20, ns20, ne30, nl30, nk30, nt30, nu30, na30, nb30, ns30, ne32, nl32, nk32, nt32, nu32, na32, nb32, ns32, ne40, nl40, nk40, nt40, nu40, na40, nb40, nm40, nn40, ns40, ne48, nl48, nk48, nt48, nu48, na48, nb48, ns48, ne56, nl56, nk56, nt56, nu56, na56, nb56, ns56, ne57, nl57, nk57, nt57, nu57, na57, nb57, ns57, ne59, nl59, nk59, nt59, nu59, na59, nb59, ns59, ne96, nl96, nk96, nt96, nu96, na96, nb96, ns96, ne97, nl97, nk97, nt97, nu97, na97, nb97, ns97, ne98, nl98, nk98, nt98, nu98, na98, nb98, ns98, ne99, nl99, nk99, nt99, nu99, na99, nb99, ns99, ne100, nl100, nk100, nt100, nu100, na100, nb100, ns100, ne101, nl101, nk101, nt101, nu101, na101, nb101, ns101, ne102, nl102, nk102, nt102, nu102, na102, nb102, ns102, ne122, nl122, nk122, nt122, nu122, na122, nb122, ns122, ne250, nl250, nk250, nt250, nu250, na250, nb250, ns250, ne255, nl255, nk255, nt255, nu255, na255, nb255, ns255, ne1000, nl1000, nk1000, nt1000, nu1000, na1000, nb1000, ns1000, npred, opt_b, ite_true, ite_false, n10, n01, eq_self, show ¬ 8 ≤ m by omega]
    exact bind_e (ldI_n (by omega)) (bind_e (stI_n (by rw [ln101]; exact hm)) u1)
theorem m_again2 (H : HK σ b S) (hb : b = 105 ∨ b = 106) {σ1 : St} (f1 : Fr AgF σ σ1) (hA : agA σ1 S 6) : ∃ σ', f_X6_again_l49 FU σ1 93 b 0 = some σ' ∧ HM σ' S ∧ Fr AgF σ σ' := by
  have lb := ln_b hb
  have gen := lp_0 (P := fun n m => ∀ σ1, Fr AgF σ σ1 → agA σ1 S 6 → (∀ j, j < m → σ1.1 100 j = σ.1 b (18 + j)) → ∃ σ', f_X6_again_l49 n σ1 93 b (nI m) = some σ' ∧ HM σ' S ∧ Fr AgF σ σ') 30 (by omega) (fun n σ1 f1 hA hB => ?_) (fun n m hm ih σ1 f1 hA hB => ?_)
  · exact gen σ1 f1 hA (fun j hj => absurd hj (Nat.not_lt_zero j))
  · obtain ⟨σ', u1, u2⟩ := m_again3 H hb f1 hA hB
    refine ⟨σ', ?_, u2⟩
    show f_X6_again_b49 (f_X6_again_l49 n) _ _ _ _ = _; unfold f_X6_again_b49
    simp (disch := omega) only [nle, nlt, neq, neqm, nmeq, nlem, nI_add, pk_mul, nI_1, ne0, nl0, nk0, nt0, nu0, ne1, nl1, nk1, nt1, nu1, ne2, nl2, nk2, nt2, nu2, na2, nb2, ns2, ne3, nl3, nk3, nt3, nu3, na3, nb3, ns3, ne4, nl4, nk4, nt4, nu4, na4, nb4, ns4, ne5, nl5, nk5, nt5, nu5, na5, nb5, nm5, nn5, ns5, ne6, nl6, nk6, nt6, nu6, na6, nb6, ns6, ne7, nl7, nk7, nt7, nu7, na7, nb7, ns7, ne8, nl8, nk8, nt8, nu8, na8, nb8, ns8, ne9, nl9, nk9, nt9, nu9, na9, nb9, ns9, ne10, nl10, nk10, nt10, nu10, na10, nb10, nm10, nn10, ns10, ne16, nl16, nk16, nt16, nu16, na16, nb16, ns16, ne18, nl18, nk18, nt18, nu18, na18, nb18, ns18, ne20, nl20, nk20, nt20, nu20, na20, nb20, ns20, ne30, nl30, nk30, nt30, nu30, na30, nb30, ns30, ne32, nl32, nk32, nt32, nu32, na32, nb32, ns32, ne40, nl40, nk40, nt40, nu40, na40, nb40, nm40, nn40, ns40, ne48, nl48, nk48, nt48, nu48, na48, nb48, ns48, ne56, nl56, nk56, nt56, nu56, na56, nb56, ns56, ne57, nl57, nk57, nt57, nu57, na57, nb57, ns57, ne59, nl59, nk59, nt59, nu59, na59, nb59, ns59, ne96, nl96, nk96, nt96, nu96, na96, nb96, ns96, ne97, nl97, nk97, nt97, nu97, na97, nb97, ns97, ne98, nl98, nk98, nt98, nu98, na98, nb98, ns98, ne99, nl99, nk99, nt99, nu99, na99, nb99, ns99, ne100, nl100, nk100, nt100, nu100, na100, nb100, ns100, ne101, nl101, nk101, nt101, nu101, na101, nb101, ns101, ne102, nl102, nk102, nt102, nu102, na102, nb102, ns102, ne122, nl122, nk122, nt122, nu122, na122, nb122, ns122, ne250, nl250, nk250, nt250, nu250, na250, nb250, ns250, ne255, nl255, nk255, nt255, nu255, na255, nb255, ns255, ne1000, nl1000, nk1000, nt1000, nu1000, na1000, nb1000, ns1000, npred, opt_b, ite_true, ite_false, n10, n01, eq_self, Nat.le_refl]
    exact u1
  · have g : ∀ v a j, a ≠ 100 → (setI σ1 100 m v).1 a j = σ1.1 a j := fun v a j h => setI_a h
    obtain ⟨σ', u1, u2⟩ := ih (setI σ1 100 m (σ1.1 b (18 + m))) (f1.t (AgF_i (by unfold AgF; omega))) (fun k hk => by rw [g _ _ _ (by decide), g _ _ _ (by decide), g _ _ _ (by decide)]; exact hA k hk) (fun j hj => by
      by_cases e : j = m
      · rw [e, setI_s, f1.1 _ _ (by unfold AgF; omega)]
      · rw [setI_k e]; exact hB j (by omega))
    refine ⟨σ', ?_, u2⟩
    show f_X6_again_b49 (f_X6_again_l49 n) _ _ _ _ = _; unfold f_X6_again_b49
    simp (disch := omega) only [nle, nlt, neq, neqm, nmeq, nlem, nI_add, pk_mul, nI_1, ne0, nl0, nk0, nt0, nu0, ne1, nl1, nk1, nt1, nu1, ne2, nl2, nk2, nt2, nu2, na2, nb2, ns2, ne3, nl3, nk3, nt3, nu3, na3, nb3, ns3, ne4, nl4, nk4, nt4, nu4, na4, nb4, ns4, ne5, nl5, nk5, nt5, nu5, na5, nb5, nm5, nn5, ns5, ne6, nl6, nk6, nt6, nu6, na6, nb6, ns6, ne7, nl7, nk7, nt7, nu7, na7, nb7, ns7, ne8, nl8, nk8, nt8, nu8, na8, nb8, ns8, ne9, nl9, nk9, nt9, nu9, na9, nb9, ns9, ne10, nl10, nk10, nt10, nu10, na10, nb10, nm10, nn10, ns10, ne16, nl16, nk16, nt16, nu16, na16, nb16, ns16, ne18, nl18, nk18, nt18, nu18, na18, nb18, ns18, ne20, nl20, nk20, nt20, nu20, na20, nb20, ns20, ne30, nl30, nk30, nt30, nu30, na30, nb30, ns30, ne32, nl32, nk32, nt32, nu32, na32, nb32, ns32, ne40, nl40, nk40, nt40, nu40, na40, nb40, nm40, nn40, ns40, ne48, nl48, nk48, nt48, nu48, na48, nb48, ns48, ne56, nl56, nk56, nt56, nu56, na56, nb56, ns56, ne57, nl57, nk57, nt57, nu57, na57, nb57, ns57, ne59, nl59, nk59, nt59, nu59, na59, nb59, ns59, ne96, nl96, nk96, nt96, nu96, na96, nb96, ns96, ne97, nl97, nk97, nt97, nu97, na97, nb97, ns97, ne98, nl98, nk98, nt98, nu98, na98, nb98, ns98, ne99, nl99, nk99, nt99, nu99, na99, nb99, ns99, ne100, nl100, nk100, nt100, nu100, na100, nb100, ns100, ne101, nl101, nk101, nt101, nu101, na101, nb101, ns101, ne102, nl102, nk102, nt102, nu102, na102, nb102, ns102, ne122, nl122, nk122, nt122, nu122, na122, nb122, ns122, ne250, nl250, nk250, nt250, nu250, na250, nb250, ns250, ne255, nl255, nk255, nt255, nu255, na255, nb255, ns255, ne1000, nl1000, nk1000, nt1000, nu1000, na1000, nb1000, ns1000, npred, opt_b, ite_true, ite_false, n10, n01, eq_self, show ¬ 30 ≤ m by omega]
    exact bind_e (ldI_n (by omega)) (bind_e (stI_n (by rw [ln100]; exact hm)) u1)
theorem m_again (H : HK σ b S) (hb : b = 105 ∨ b = 106) : ∃ σ', f_X6_again σ 93 b = some σ' ∧ HM σ' S ∧ Fr AgF σ σ' := by
  have lb := ln_b hb
  have gen := lp_0 (P := fun n m => ∀ σ1, Fr AgF σ σ1 → agA σ1 S m → ∃ σ', f_X6_again_l2 n σ1 93 b (nI m) = some σ' ∧ HM σ' S ∧ Fr AgF σ σ') 6 (by omega) (fun n σ1 f1 hA => ?_) (fun n m hm ih σ1 f1 hA => ?_)
  · exact gen σ (Fr.r σ) (fun j hj => absurd hj (Nat.not_lt_zero j))
  · obtain ⟨σ', u1, u2⟩ := m_again2 H hb f1 hA
    refine ⟨σ', ?_, u2⟩
    show f_X6_again_b2 (f_X6_again_l2 n) _ _ _ _ = _; unfold f_X6_again_b2
    simp (disch := omega) only [nle, nlt, neq, neqm, nmeq, nlem, nI_add, pk_mul, nI_1, ne0, nl0, nk0, nt0, nu0, ne1, nl1, nk1, nt1, nu1, ne2, nl2, nk2, nt2, nu2, na2, nb2, ns2, ne3, nl3, nk3, nt3, nu3, na3, nb3, ns3, ne4, nl4, nk4, nt4, nu4, na4, nb4, ns4, ne5, nl5, nk5, nt5, nu5, na5, nb5, nm5, nn5, ns5, ne6, nl6, nk6, nt6, nu6, na6, nb6, ns6, ne7, nl7, nk7, nt7, nu7, na7, nb7, ns7, ne8, nl8, nk8, nt8, nu8, na8, nb8, ns8, ne9, nl9, nk9, nt9, nu9, na9, nb9, ns9, ne10, nl10, nk10, nt10, nu10, na10, nb10, nm10, nn10, ns10, ne16, nl16, nk16, nt16, nu16, na16, nb16, ns16, ne18, nl18, nk18, nt18, nu18, na18, nb18, ns18, ne20, nl20, nk20, nt20, nu20, na20, nb20, ns20, ne30, nl30, nk30, nt30, nu30, na30, nb30, ns30, ne32, nl32, nk32, nt32, nu32, na32, nb32, ns32, ne40, nl40, nk40, nt40, nu40, na40, nb40, nm40, nn40, ns40, ne48, nl48, nk48, nt48, nu48, na48, nb48, ns48, ne56, nl56, nk56, nt56, nu56, na56, nb56, ns56, ne57, nl57, nk57, nt57, nu57, na57, nb57, ns57, ne59, nl59, nk59, nt59, nu59, na59, nb59, ns59, ne96, nl96, nk96, nt96, nu96, na96, nb96, ns96, ne97, nl97, nk97, nt97, nu97, na97, nb97, ns97, ne98, nl98, nk98, nt98, nu98, na98, nb98, ns98, ne99, nl99, nk99, nt99, nu99, na99, nb99, ns99, ne100, nl100, nk100, nt100, nu100, na100, nb100, ns100, ne101, nl101, nk101, nt101, nu101, na101, nb101, ns101, ne102, nl102, nk102, nt102, nu102, na102, nb102, ns102, ne122, nl122, nk122, nt122, nu122, na122, nb122, ns122, ne250, nl250, nk250, nt250, nu250, na250, nb250, ns250, ne255, nl255, nk255, nt255, nu255, na255, nb255, ns255, ne1000, nl1000, nk1000, nt1000, nu1000, na1000, nb1000, ns1000, npred, opt_b, ite_true, ite_false, n10, n01, eq_self, Nat.le_refl]
    exact u1
  · have F2 := f1.t (AgF_i (σ := σ1) (a := 97) (k := m) (v := nI (ki S m)) (by unfold AgF; omega))
    have F3 := F2.t (AgF_i (σ := setI σ1 97 m (nI (ki S m))) (a := 98) (k := m) (v := nI (ow S m)) (by unfold AgF; omega))
    have F4 := F3.t (AgF_i (σ := setI (setI σ1 97 m (nI (ki S m))) 98 m (nI (ow S m))) (a := 99) (k := m) (v := my S m) (by unfold AgF; omega))
    have r1 : ldI σ1 b (nI m) = some (nI (ki S m)) := by rw [ldI_n (by omega), ((H.ag hb f1).2.1 m hm).1]
    have r2 : ldI (setI σ1 97 m (nI (ki S m))) b (nI (6 + m)) = some (nI (ow S m)) := by rw [ldI_n (by omega), ((H.ag hb F2).2.1 m hm).2.1]
    have r3 : ldI (setI (setI σ1 97 m (nI (ki S m))) 98 m (nI (ow S m))) b (nI (12 + m)) = some (my S m) := by rw [ldI_n (by omega), ((H.ag hb F3).2.1 m hm).2.2]
    obtain ⟨σ', u1, u2⟩ := ih (setI (setI (setI σ1 97 m (nI (ki S m))) 98 m (nI (ow S m))) 99 m (my S m)) F4 (fun k hk => by
      by_cases e : k = m
      · subst e
        exact ⟨by rw [setI_a (by decide), setI_a (by decide), setI_s], by rw [setI_a (by decide), setI_s], by rw [setI_s]⟩
      · refine ⟨?_, ?_, ?_⟩
        · rw [setI_n (by omega), setI_n (by omega), setI_n (by omega)]; exact (hA k (by omega)).1
        · rw [setI_n (by omega), setI_n (by omega), setI_n (by omega)]; exact (hA k (by omega)).2.1
        · rw [setI_n (by omega), setI_n (by omega), setI_n (by omega)]; exact (hA k (by omega)).2.2)
    refine ⟨σ', ?_, u2⟩
    show f_X6_again_b2 (f_X6_again_l2 n) _ _ _ _ = _; unfold f_X6_again_b2
    simp (disch := omega) only [nle, nlt, neq, neqm, nmeq, nlem, nI_add, pk_mul, nI_1, ne0, nl0, nk0, nt0, nu0, ne1, nl1, nk1, nt1, nu1, ne2, nl2, nk2, nt2, nu2, na2, nb2, ns2, ne3, nl3, nk3, nt3, nu3, na3, nb3, ns3, ne4, nl4, nk4, nt4, nu4, na4, nb4, ns4, ne5, nl5, nk5, nt5, nu5, na5, nb5, nm5, nn5, ns5, ne6, nl6, nk6, nt6, nu6, na6, nb6, ns6, ne7, nl7, nk7, nt7, nu7, na7, nb7, ns7, ne8, nl8, nk8, nt8, nu8, na8, nb8, ns8, ne9, nl9, nk9, nt9, nu9, na9, nb9, ns9, ne10, nl10, nk10, nt10, nu10, na10, nb10, nm10, nn10, ns10, ne16, nl16, nk16, nt16, nu16, na16, nb16, ns16, ne18, nl18, nk18, nt18, nu18, na18, nb18, ns18, ne20, nl20, nk20, nt20, nu20, na20, nb20, ns20, ne30, nl30, nk30, nt30, nu30, na30, nb30, ns30, ne32, nl32, nk32, nt32, nu32, na32, nb32, ns32, ne40, nl40, nk40, nt40, nu40, na40, nb40, nm40, nn40, ns40, ne48, nl48, nk48, nt48, nu48, na48, nb48, ns48, ne56, nl56, nk56, nt56, nu56, na56, nb56, ns56, ne57, nl57, nk57, nt57, nu57, na57, nb57, ns57, ne59, nl59, nk59, nt59, nu59, na59, nb59, ns59, ne96, nl96, nk96, nt96, nu96, na96, nb96, ns96, ne97, nl97, nk97, nt97, nu97, na97, nb97, ns97, ne98, nl98, nk98, nt98, nu98, na98, nb98, ns98, ne99, nl99, nk99, nt99, nu99, na99, nb99, ns99, ne100, nl100, nk100, nt100, nu100, na100, nb100, ns100, ne101, nl101, nk101, nt101, nu101, na101, nb101, ns101, ne102, nl102, nk102, nt102, nu102, na102, nb102, ns102, ne122, nl122, nk122, nt122, nu122, na122, nb122, ns122, ne250, nl250, nk250, nt250, nu250, na250, nb250, ns250, ne255, nl255, nk255, nt255, nu255, na255, nb255, ns255, ne1000, nl1000, nk1000, nt1000, nu1000, na1000, nb1000, ns1000, npred, opt_b, ite_true, ite_false, n10, n01, eq_self, show ¬ 6 ≤ m by omega, nb12]
    exact bind_e r1 (bind_e (stI_n (by rw [ln97]; exact hm)) (bind_e r2 (bind_e (stI_n (by rw [ln98]; exact hm)) (bind_e r3 (bind_e (stI_n (by rw [ln99]; exact hm)) u1)))))
end AGAIN
/-- what of the rest an image may change, too -/
def RG (a j : Nat) : Prop := RF a j ∨ (57 ≤ a ∧ a ≤ 72) ∨ a = 105 ∨ (a = 0 ∧ j = 8) ∨ (a = 93 ∧ j = 23)
theorem Rest.fg {σ σ' : St} {n : Nat} (R : Rest σ n) (f : Fr RG σ σ') (g : Img σ') : Rest σ' n := by
  obtain ⟨a, b, ⟨c0, c1, c2, c3, c4, c5⟩, ⟨t, t1, t2, t3⟩, d, -⟩ := R
  refine ⟨fun i hi => ?_, fun s hs => ?_, ⟨?_, ?_, ?_, ?_, ?_, fun j hj => ?_⟩, ⟨t, t1, ?_, ?_⟩, fun i hi => ?_, g⟩
  · rw [f.1 1 i (by unfold RG RF; omega), f.1 104 (i + 2) (by unfold RG RF; omega)]; exact a i hi
  · have := b s hs
    unfold Shv at this ⊢
    rw [f.1 (21 + 2 * s) 0 (by unfold RG RF; omega), f.1 94 s (by unfold RG RF; omega), f.1 (21 + 2 * s) 1 (by unfold RG RF; omega), f.1 95 s (by unfold RG RF; omega), f.2]
    exact this
  · rw [f.1 _ _ (by unfold RG RF; omega)]; exact c0
  · rw [f.1 _ _ (by unfold RG RF; omega)]; exact c1
  · rw [f.1 _ _ (by unfold RG RF; omega)]; exact c2
  · rw [f.1 _ _ (by unfold RG RF; omega)]; exact c3
  · rw [f.1 _ _ (by unfold RG RF; omega)]; exact c4
  · rw [f.1 _ _ (by unfold RG RF; omega)]; exact c5 j hj
  · rw [f.1 _ _ (by unfold RG RF; omega)]; exact t2
  · rw [f.1 _ _ (by unfold RG RF; omega)]; exact t3
  · rw [f.1 4 i (by unfold RG RF; omega), f.1 103 i (by unfold RG RF; omega)]; exact d i hi
section IMAGE
variable {σ : St} {S : HS}
theorem op_image (H : Sm σ S) : Agr (fun s => f_X5_image s 0) (fun s => f_X6_image s 93) σ := by
  obtain ⟨hc, hm, I, R⟩ := id H
  obtain ⟨-, -, ⟨-, z0, z1, -⟩, -, -, -⟩ := id R
  obtain ⟨σ1, u1, u2, u3⟩ := c_take (x := 57) (y := 39) (Or.inr (Or.inl rfl)) isH39 (by decide) hc z0 z1
  have hm1 : HM (setI (setI σ1 0 8 1) 93 23 1) S := hm.fr (((u3.w fun a j z => by unfold MF; omega).t (Fr.i (by unfold MF; omega))).t (Fr.i (by unfold MF; omega)))
  obtain ⟨σ2, v1, v2, v3⟩ := m_keep hm1 (Or.inl rfl)
  have fG : Fr RG σ σ2 := (((u3.w fun a j z => by unfold RG; omega).t (Fr.i (by unfold RG; omega))).t (Fr.i (by unfold RG; omega))).t (v3.w fun a j z => by unfold RG; omega)
  have e0 : σ2.1 0 8 = 1 := by rw [v3.1 _ _ (by decide), setI_a (by decide), setI_s]
  have e1 : σ2.1 93 23 = 1 := by rw [v3.1 _ _ (by decide), setI_s]
  refine ⟨1, setI σ1 0 8 1, σ2, ?_, ?_, S, ?_, ?_, I, R.fg fG (Or.inr ⟨e0, e1, S, ?_, v2, I⟩)⟩
  · show f_X5_image σ 0 = _
    unfold f_X5_image
    refine bind_e u1 ?_
    simp only [ptI_s, opt_b]
  · show f_X6_image _ 93 = _
    unfold f_X6_image
    simp only [ptI_s, opt_b]
    exact bind_e v1 rfl
  · exact hc.cf ((((u3.w fun a j z => by unfold CF; omega).t (Fr.i (by unfold CF; omega))).t (Fr.i (by unfold CF; omega))).t (v3.w fun a j z => by unfold CF; omega))
  · exact hm1.fr (v3.w fun a j z => by unfold MF; omega)
  · exact u2.fr (((Fr.i (P := fun a _ => a = 0 ∨ a = 93 ∨ a = 105) (Or.inl rfl)).t (Fr.i (Or.inr (Or.inl rfl)))).t (v3.w fun a j z => Or.inr (Or.inr z))) (fun a j p q z => by omega)
def drp (n : Nat) (v : Int32) : Int32 := if v - 10 < nI n then v else -1
theorem drp_a : ∀ n, n ≤ 6 → ∀ s, s < 16 → (nI s - 10 < nI n) = (nI s < 10 + nI n) := by
  intro n hn s hs
  exact propext ((by decide +kernel : ∀ n, n ≤ 6 → ∀ s, s < 16 → ((nI s - 10 < nI n) ↔ (nI s < 10 + nI n))) n hn s hs)
theorem drp_m : ∀ n, n ≤ 6 → ((-1 : Int32) - 10 < nI n) ∧ ((-1 : Int32) < 10 + nI n) := by decide +kernel
theorem drp_lt : ∀ n, n ≤ 6 → ∀ k, k < 6 → (nI (10 + k) - 10 < nI n) → k < n := by decide +kernel
theorem drp_ok {n n' : Nat} {v : Int32} (h : hOk n v) (hn : n ≤ 6) (hn' : n' ≤ 6) : (if v < 10 + nI n' then v else -1) = drp n' v ∧ hOk n' (drp n' v) := by
  unfold drp
  rcases h with rfl | ⟨s, hs, rfl⟩ | ⟨k, hk, rfl⟩
  · rw [if_pos (drp_m n' hn').1, if_pos (drp_m n' hn').2]
    exact ⟨rfl, Or.inl rfl⟩
  · have e := drp_a n' hn' s (by omega)
    by_cases q : nI s - 10 < nI n'
    · rw [if_pos q, if_pos (e ▸ q)]
      exact ⟨rfl, Or.inr (Or.inl ⟨s, hs, rfl⟩)⟩
    · rw [if_neg q, if_neg (e ▸ q)]
      exact ⟨rfl, Or.inl rfl⟩
  · have e := drp_a n' hn' (10 + k) (by omega)
    by_cases q : nI (10 + k) - 10 < nI n'
    · rw [if_pos q, if_pos (e ▸ q)]
      exact ⟨rfl, Or.inr (Or.inr ⟨k, drp_lt n' hn' k (by omega) q, rfl⟩)⟩
    · rw [if_neg q, if_neg (e ▸ q)]
      exact ⟨rfl, Or.inl rfl⟩
theorem ln2 : ln 2 = 8 := by decide +kernel
theorem c_shelf {σ : St} {s : Nat} (hs : s < 8) : f_X5_shelfAt σ 0 (nI s) = some (21 + 2 * s) := by
  unfold f_X5_shelfAt
  rw [if_neg (nI_pos (by omega)), ln2, if_neg (nI_ge hs (by omega)), ldS_n (by rw [ln2]; exact hs)]
  rfl
/-- shelves with keys that there are no more hold nothing -/
theorem c_drop {n : Nat} (h5 : σ.1 39 5 = nI n) : ∃ σ', f_X5_back_l27 FU σ 0 0 = some (1, σ') ∧ (∀ s, s < 8 → σ'.1 (21 + 2 * s) 0 = drp n (σ.1 (21 + 2 * s) 0)) ∧ Fr (fun a j => 21 ≤ a ∧ a ≤ 35 ∧ j = 0) σ σ' := by
  have gen := lp_0 (P := fun k m => ∀ σ1, Fr (fun a j => 21 ≤ a ∧ a ≤ 35 ∧ j = 0) σ σ1 → (∀ s, s < m → σ1.1 (21 + 2 * s) 0 = drp n (σ.1 (21 + 2 * s) 0)) → (∀ s, m ≤ s → σ1.1 (21 + 2 * s) 0 = σ.1 (21 + 2 * s) 0) → ∃ σ', f_X5_back_l27 k σ1 0 (nI m) = some (1, σ') ∧ (∀ s, s < 8 → σ'.1 (21 + 2 * s) 0 = drp n (σ.1 (21 + 2 * s) 0)) ∧ Fr (fun a j => 21 ≤ a ∧ a ≤ 35 ∧ j = 0) σ σ') 8 (by omega) (fun k σ1 f1 g1 g2 => ?_) (fun k m hm ih σ1 f1 g1 g2 => ?_)
  · exact gen σ (Fr.r σ) (fun s hs => absurd hs (Nat.not_lt_zero s)) (fun s _ => rfl)
  · refine ⟨σ1, ?_, g1, f1⟩
    show f_X5_back_b27 (f_X5_back_l27 k) _ _ _ = _; unfold f_X5_back_b27
    simp (disch := omega) only [nle, nlt, neq, neqm, nmeq, nlem, nI_add, pk_mul, nI_1, ne0, nl0, nk0, nt0, nu0, ne1, nl1, nk1, nt1, nu1, ne2, nl2, nk2, nt2, nu2, na2, nb2, ns2, ne3, nl3, nk3, nt3, nu3, na3, nb3, ns3, ne4, nl4, nk4, nt4, nu4, na4, nb4, ns4, ne5, nl5, nk5, nt5, nu5, na5, nb5, nm5, nn5, ns5, ne6, nl6, nk6, nt6, nu6, na6, nb6, ns6, ne7, nl7, nk7, nt7, nu7, na7, nb7, ns7, ne8, nl8, nk8, nt8, nu8, na8, nb8, ns8, ne9, nl9, nk9, nt9, nu9, na9, nb9, ns9, ne10, nl10, nk10, nt10, nu10, na10, nb10, nm10, nn10, ns10, ne16, nl16, nk16, nt16, nu16, na16, nb16, ns16, ne18, nl18, nk18, nt18, nu18, na18, nb18, ns18, ne20, nl20, nk20, nt20, nu20, na20, nb20, ns20, ne30, nl30, nk30, nt30, nu30, na30, nb30, ns30, ne32, nl32, nk32, nt32, nu32, na32, nb32, ns32, ne40, nl40, nk40, nt40, nu40, na40, nb40, nm40, nn40, ns40, ne48, nl48, nk48, nt48, nu48, na48, nb48, ns48, ne56, nl56, nk56, nt56, nu56, na56, nb56, ns56, ne57, nl57, nk57, nt57, nu57, na57, nb57, ns57, ne59, nl59, nk59, nt59, nu59, na59, nb59, ns59, ne96, nl96, nk96, nt96, nu96, na96, nb96, ns96, ne97, nl97, nk97, nt97, nu97, na97, nb97, ns97, ne98, nl98, nk98, nt98, nu98, na98, nb98, ns98, ne99, nl99, nk99, nt99, nu99, na99, nb99, ns99, ne100, nl100, nk100, nt100, nu100, na100, nb100, ns100, ne101, nl101, nk101, nt101, nu101, na101, nb101, ns101, ne102, nl102, nk102, nt102, nu102, na102, nb102, ns102, ne122, nl122, nk122, nt122, nu122, na122, nb122, ns122, ne250, nl250, nk250, nt250, nu250, na250, nb250, ns250, ne255, nl255, nk255, nt255, nu255, na255, nb255, ns255, ne1000, nl1000, nk1000, nt1000, nu1000, na1000, nb1000, ns1000, npred, opt_b, ite_true, ite_false, n10, n01, eq_self, Nat.le_refl]
  · have e5 : σ1.1 39 5 = nI n := by rw [f1.1 _ _ (by omega), h5]
    have em := g2 m (Nat.le_refl _)
    by_cases q : σ.1 (21 + 2 * m) 0 - 10 < nI n
    · obtain ⟨σ', u1, u2⟩ := ih σ1 f1 (fun s hs => by
        by_cases e : s = m
        · subst e; rw [em]; unfold drp; rw [if_pos q]
        · exact g1 s (by omega)) (fun s hs => g2 s (by omega))
      refine ⟨σ', ?_, u2⟩
      show f_X5_back_b27 (f_X5_back_l27 k) _ _ _ = _; unfold f_X5_back_b27
      simp (disch := omega) only [nle, nlt, neq, neqm, nmeq, nlem, nI_add, pk_mul, nI_1, ne0, nl0, nk0, nt0, nu0, ne1, nl1, nk1, nt1, nu1, ne2, nl2, nk2, nt2, nu2, na2, nb2, ns2, ne3, nl3, nk3, nt3, nu3, na3, nb3, ns3, ne4, nl4, nk4, nt4, nu4, na4, nb4, ns4, ne5, nl5, nk5, nt5, nu5, na5, nb5, nm5, nn5, ns5, ne6, nl6, nk6, nt6, nu6, na6, nb6, ns6, ne7, nl7, nk7, nt7, nu7, na7, nb7, ns7, ne8, nl8, nk8, nt8, nu8, na8, nb8, ns8, ne9, nl9, nk9, nt9, nu9, na9, nb9, ns9, ne10, nl10, nk10, nt10, nu10, na10, nb10, nm10, nn10, ns10, ne16, nl16, nk16, nt16, nu16, na16, nb16, ns16, ne18, nl18, nk18, nt18, nu18, na18, nb18, ns18, ne20, nl20, nk20, nt20, nu20, na20, nb20, ns20, ne30, nl30, nk30, nt30, nu30, na30, nb30, ns30, ne32, nl32, nk32, nt32, nu32, na32, nb32, ns32, ne40, nl40, nk40, nt40, nu40, na40, nb40, nm40, nn40, ns40, ne48, nl48, nk48, nt48, nu48, na48, nb48, ns48, ne56, nl56, nk56, nt56, nu56, na56, nb56, ns56, ne57, nl57, nk57, nt57, nu57, na57, nb57, ns57, ne59, nl59, nk59, nt59, nu59, na59, nb59, ns59, ne96, nl96, nk96, nt96, nu96, na96, nb96, ns96, ne97, nl97, nk97, nt97, nu97, na97, nb97, ns97, ne98, nl98, nk98, nt98, nu98, na98, nb98, ns98, ne99, nl99, nk99, nt99, nu99, na99, nb99, ns99, ne100, nl100, nk100, nt100, nu100, na100, nb100, ns100, ne101, nl101, nk101, nt101, nu101, na101, nb101, ns101, ne102, nl102, nk102, nt102, nu102, na102, nb102, ns102, ne122, nl122, nk122, nt122, nu122, na122, nb122, ns122, ne250, nl250, nk250, nt250, nu250, na250, nb250, ns250, ne255, nl255, nk255, nt255, nu255, na255, nb255, ns255, ne1000, nl1000, nk1000, nt1000, nu1000, na1000, nb1000, ns1000, npred, opt_b, ite_true, ite_false, n10, n01, eq_self, show ¬ 8 ≤ m by omega, c_shelf hm]
      unfold f_X2_dropKeysFrom
      rw [e5, em, if_pos q, bind_s]
      exact u1
    · obtain ⟨σ', u1, u2⟩ := ih (setI σ1 (21 + 2 * m) 0 (-1)) (f1.t (Fr.i (by omega))) (fun s hs => by
        by_cases e : s = m
        · subst e; rw [setI_s]; unfold drp; rw [if_neg q]
        · rw [setI_n (by omega)]; exact g1 s (by omega)) (fun s hs => by rw [setI_n (by omega)]; exact g2 s (by omega))
      refine ⟨σ', ?_, u2⟩
      show f_X5_back_b27 (f_X5_back_l27 k) _ _ _ = _; unfold f_X5_back_b27
      simp (disch := omega) only [nle, nlt, neq, neqm, nmeq, nlem, nI_add, pk_mul, nI_1, ne0, nl0, nk0, nt0, nu0, ne1, nl1, nk1, nt1, nu1, ne2, nl2, nk2, nt2, nu2, na2, nb2, ns2, ne3, nl3, nk3, nt3, nu3, na3, nb3, ns3, ne4, nl4, nk4, nt4, nu4, na4, nb4, ns4, ne5, nl5, nk5, nt5, nu5, na5, nb5, nm5, nn5, ns5, ne6, nl6, nk6, nt6, nu6, na6, nb6, ns6, ne7, nl7, nk7, nt7, nu7, na7, nb7, ns7, ne8, nl8, nk8, nt8, nu8, na8, nb8, ns8, ne9, nl9, nk9, nt9, nu9, na9, nb9, ns9, ne10, nl10, nk10, nt10, nu10, na10, nb10, nm10, nn10, ns10, ne16, nl16, nk16, nt16, nu16, na16, nb16, ns16, ne18, nl18, nk18, nt18, nu18, na18, nb18, ns18, ne20, nl20, nk20, nt20, nu20, na20, nb20, ns20, ne30, nl30, nk30, nt30, nu30, na30, nb30, ns30, ne32, nl32, nk32, nt32, nu32, na32, nb32, ns32, ne40, nl40, nk40, nt40, nu40, na40, nb40, nm40, nn40, ns40, ne48, nl48, nk48, nt48, nu48, na48, nb48, ns48, ne56, nl56, nk56, nt56, nu56, na56, nb56, ns56, ne57, nl57, nk57, nt57, nu57, na57, nb57, ns57, ne59, nl59, nk59, nt59, nu59, na59, nb59, ns59, ne96, nl96, nk96, nt96, nu96, na96, nb96, ns96, ne97, nl97, nk97, nt97, nu97, na97, nb97, ns97, ne98, nl98, nk98, nt98, nu98, na98, nb98, ns98, ne99, nl99, nk99, nt99, nu99, na99, nb99, ns99, ne100, nl100, nk100, nt100, nu100, na100, nb100, ns100, ne101, nl101, nk101, nt101, nu101, na101, nb101, ns101, ne102, nl102, nk102, nt102, nu102, na102, nb102, ns102, ne122, nl122, nk122, nt122, nu122, na122, nb122, ns122, ne250, nl250, nk250, nt250, nu250, na250, nb250, ns250, ne255, nl255, nk255, nt255, nu255, na255, nb255, ns255, ne1000, nl1000, nk1000, nt1000, nu1000, na1000, nb1000, ns1000, npred, opt_b, ite_true, ite_false, n10, n01, eq_self, show ¬ 8 ≤ m by omega, c_shelf hm]
      unfold f_X2_dropKeysFrom
      rw [e5, em, if_neg q, ptI_s, bind_s, bind_s]
      exact u1
theorem m_drop {n n0 : Nat} (hn : n ≤ 6) (hn0 : n0 ≤ 6) (h6 : σ.1 93 6 = nI n) (hO : ∀ s, s < 8 → hOk n0 (σ.1 94 s)) : ∃ σ', f_X6_back_l24 FU σ 93 0 = some (1, σ') ∧ (∀ s, s < 8 → σ'.1 94 s = drp n (σ.1 94 s)) ∧ Fr (fun a _ => a = 94) σ σ' := by
  have gen := lp_0 (P := fun k m => ∀ σ1, Fr (fun a _ => a = 94) σ σ1 → (∀ s, s < m → σ1.1 94 s = drp n (σ.1 94 s)) → (∀ s, m ≤ s → σ1.1 94 s = σ.1 94 s) → ∃ σ', f_X6_back_l24 k σ1 93 (nI m) = some (1, σ') ∧ (∀ s, s < 8 → σ'.1 94 s = drp n (σ.1 94 s)) ∧ Fr (fun a _ => a = 94) σ σ') 8 (by omega) (fun k σ1 f1 g1 g2 => ?_) (fun k m hm ih σ1 f1 g1 g2 => ?_)
  · exact gen σ (Fr.r σ) (fun s hs => absurd hs (Nat.not_lt_zero s)) (fun s _ => rfl)
  · refine ⟨σ1, ?_, g1, f1⟩
    show f_X6_back_b24 (f_X6_back_l24 k) _ _ _ = _; unfold f_X6_back_b24
    simp (disch := omega) only [nle, nlt, neq, neqm, nmeq, nlem, nI_add, pk_mul, nI_1, ne0, nl0, nk0, nt0, nu0, ne1, nl1, nk1, nt1, nu1, ne2, nl2, nk2, nt2, nu2, na2, nb2, ns2, ne3, nl3, nk3, nt3, nu3, na3, nb3, ns3, ne4, nl4, nk4, nt4, nu4, na4, nb4, ns4, ne5, nl5, nk5, nt5, nu5, na5, nb5, nm5, nn5, ns5, ne6, nl6, nk6, nt6, nu6, na6, nb6, ns6, ne7, nl7, nk7, nt7, nu7, na7, nb7, ns7, ne8, nl8, nk8, nt8, nu8, na8, nb8, ns8, ne9, nl9, nk9, nt9, nu9, na9, nb9, ns9, ne10, nl10, nk10, nt10, nu10, na10, nb10, nm10, nn10, ns10, ne16, nl16, nk16, nt16, nu16, na16, nb16, ns16, ne18, nl18, nk18, nt18, nu18, na18, nb18, ns18, ne20, nl20, nk20, nt20, nu20, na20, nb20, ns20, ne30, nl30, nk30, nt30, nu30, na30, nb30, ns30, ne32, nl32, nk32, nt32, nu32, na32, nb32, ns32, ne40, nl40, nk40, nt40, nu40, na40, nb40, nm40, nn40, ns40, ne48, nl48, nk48, nt48, nu48, na48, nb48, ns48, ne56, nl56, nk56, nt56, nu56, na56, nb56, ns56, ne57, nl57, nk57, nt57, nu57, na57, nb57, ns57, ne59, nl59, nk59, nt59, nu59, na59, nb59, ns59, ne96, nl96, nk96, nt96, nu96, na96, nb96, ns96, ne97, nl97, nk97, nt97, nu97, na97, nb97, ns97, ne98, nl98, nk98, nt98, nu98, na98, nb98, ns98, ne99, nl99, nk99, nt99, nu99, na99, nb99, ns99, ne100, nl100, nk100, nt100, nu100, na100, nb100, ns100, ne101, nl101, nk101, nt101, nu101, na101, nb101, ns101, ne102, nl102, nk102, nt102, nu102, na102, nb102, ns102, ne122, nl122, nk122, nt122, nu122, na122, nb122, ns122, ne250, nl250, nk250, nt250, nu250, na250, nb250, ns250, ne255, nl255, nk255, nt255, nu255, na255, nb255, ns255, ne1000, nl1000, nk1000, nt1000, nu1000, na1000, nb1000, ns1000, npred, opt_b, ite_true, ite_false, n10, n01, eq_self, Nat.le_refl]
  · have e5 : σ1.1 93 6 = nI n := by rw [f1.1 _ _ (by omega), h6]
    have em := g2 m (Nat.le_refl _)
    have dq := (drp_ok (hO m hm) hn0 hn).1
    have hld : ldI σ1 94 (nI m) = some (σ.1 94 m) := by rw [ldI_n (by rw [ln94]; exact hm), em]
    by_cases q : σ.1 94 m < 10 + nI n
    · rw [if_pos q] at dq
      obtain ⟨σ', u1, u2⟩ := ih σ1 f1 (fun s hs => by
        by_cases e : s = m
        · subst e; rw [em]; exact dq
        · exact g1 s (by omega)) (fun s hs => g2 s (by omega))
      refine ⟨σ', ?_, u2⟩
      show f_X6_back_b24 (f_X6_back_l24 k) _ _ _ = _; unfold f_X6_back_b24
      unfold f_X6_back_b53
      simp (disch := omega) only [nle, nlt, neq, neqm, nmeq, nlem, nI_add, pk_mul, nI_1, ne0, nl0, nk0, nt0, nu0, ne1, nl1, nk1, nt1, nu1, ne2, nl2, nk2, nt2, nu2, na2, nb2, ns2, ne3, nl3, nk3, nt3, nu3, na3, nb3, ns3, ne4, nl4, nk4, nt4, nu4, na4, nb4, ns4, ne5, nl5, nk5, nt5, nu5, na5, nb5, nm5, nn5, ns5, ne6, nl6, nk6, nt6, nu6, na6, nb6, ns6, ne7, nl7, nk7, nt7, nu7, na7, nb7, ns7, ne8, nl8, nk8, nt8, nu8, na8, nb8, ns8, ne9, nl9, nk9, nt9, nu9, na9, nb9, ns9, ne10, nl10, nk10, nt10, nu10, na10, nb10, nm10, nn10, ns10, ne16, nl16, nk16, nt16, nu16, na16, nb16, ns16, ne18, nl18, nk18, nt18, nu18, na18, nb18, ns18, ne20, nl20, nk20, nt20, nu20, na20, nb20, ns20, ne30, nl30, nk30, nt30, nu30, na30, nb30, ns30, ne32, nl32, nk32, nt32, nu32, na32, nb32, ns32, ne40, nl40, nk40, nt40, nu40, na40, nb40, nm40, nn40, ns40, ne48, nl48, nk48, nt48, nu48, na48, nb48, ns48, ne56, nl56, nk56, nt56, nu56, na56, nb56, ns56, ne57, nl57, nk57, nt57, nu57, na57, nb57, ns57, ne59, nl59, nk59, nt59, nu59, na59, nb59, ns59, ne96, nl96, nk96, nt96, nu96, na96, nb96, ns96, ne97, nl97, nk97, nt97, nu97, na97, nb97, ns97, ne98, nl98, nk98, nt98, nu98, na98, nb98, ns98, ne99, nl99, nk99, nt99, nu99, na99, nb99, ns99, ne100, nl100, nk100, nt100, nu100, na100, nb100, ns100, ne101, nl101, nk101, nt101, nu101, na101, nb101, ns101, ne102, nl102, nk102, nt102, nu102, na102, nb102, ns102, ne122, nl122, nk122, nt122, nu122, na122, nb122, ns122, ne250, nl250, nk250, nt250, nu250, na250, nb250, ns250, ne255, nl255, nk255, nt255, nu255, na255, nb255, ns255, ne1000, nl1000, nk1000, nt1000, nu1000, na1000, nb1000, ns1000, npred, opt_b, ite_true, ite_false, n10, n01, eq_self, show ¬ 8 ≤ m by omega]
      refine bind_e hld ?_
      rw [e5]
      show (if σ.1 94 m < 10 + nI n then _ else _) = _
      rw [if_pos q]
      exact u1
    · rw [if_neg q] at dq
      obtain ⟨σ', u1, u2⟩ := ih (setI σ1 94 m (-1)) (f1.t (Fr.i rfl)) (fun s hs => by
        by_cases e : s = m
        · subst e; rw [setI_s]; exact dq
        · rw [setI_n (by omega)]; exact g1 s (by omega)) (fun s hs => by rw [setI_n (by omega)]; exact g2 s (by omega))
      refine ⟨σ', ?_, u2⟩
      show f_X6_back_b24 (f_X6_back_l24 k) _ _ _ = _; unfold f_X6_back_b24
      unfold f_X6_back_b53
      simp (disch := omega) only [nle, nlt, neq, neqm, nmeq, nlem, nI_add, pk_mul, nI_1, ne0, nl0, nk0, nt0, nu0, ne1, nl1, nk1, nt1, nu1, ne2, nl2, nk2, nt2, nu2, na2, nb2, ns2, ne3, nl3, nk3, nt3, nu3, na3, nb3, ns3, ne4, nl4, nk4, nt4, nu4, na4, nb4, ns4, ne5, nl5, nk5, nt5, nu5, na5, nb5, nm5, nn5, ns5, ne6, nl6, nk6, nt6, nu6, na6, nb6, ns6, ne7, nl7, nk7, nt7, nu7, na7, nb7, ns7, ne8, nl8, nk8, nt8, nu8, na8, nb8, ns8, ne9, nl9, nk9, nt9, nu9, na9, nb9, ns9, ne10, nl10, nk10, nt10, nu10, na10, nb10, nm10, nn10, ns10, ne16, nl16, nk16, nt16, nu16, na16, nb16, ns16, ne18, nl18, nk18, nt18, nu18, na18, nb18, ns18, ne20, nl20, nk20, nt20, nu20, na20, nb20, ns20, ne30, nl30, nk30, nt30, nu30, na30, nb30, ns30, ne32, nl32, nk32, nt32, nu32, na32, nb32, ns32, ne40, nl40, nk40, nt40, nu40, na40, nb40, nm40, nn40, ns40, ne48, nl48, nk48, nt48, nu48, na48, nb48, ns48, ne56, nl56, nk56, nt56, nu56, na56, nb56, ns56, ne57, nl57, nk57, nt57, nu57, na57, nb57, ns57, ne59, nl59, nk59, nt59, nu59, na59, nb59, ns59, ne96, nl96, nk96, nt96, nu96, na96, nb96, ns96, ne97, nl97, nk97, nt97, nu97, na97, nb97, ns97, ne98, nl98, nk98, nt98, nu98, na98, nb98, ns98, ne99, nl99, nk99, nt99, nu99, na99, nb99, ns99, ne100, nl100, nk100, nt100, nu100, na100, nb100, ns100, ne101, nl101, nk101, nt101, nu101, na101, nb101, ns101, ne102, nl102, nk102, nt102, nu102, na102, nb102, ns102, ne122, nl122, nk122, nt122, nu122, na122, nb122, ns122, ne250, nl250, nk250, nt250, nu250, na250, nb250, ns250, ne255, nl255, nk255, nt255, nu255, na255, nb255, ns255, ne1000, nl1000, nk1000, nt1000, nu1000, na1000, nb1000, ns1000, npred, opt_b, ite_true, ite_false, n10, n01, eq_self, show ¬ 8 ≤ m by omega]
      refine bind_e hld ?_
      rw [e5]
      show (if σ.1 94 m < 10 + nI n then _ else _) = _
      rw [if_neg q]
      exact bind_e (stI_n (by rw [ln94]; exact hm)) u1
theorem op_back (H : Sm σ S) : Agr (fun s => f_X5_back s 0) (fun s => f_X6_back s 93) σ := by
  obtain ⟨hc, hm, I, R⟩ := id H
  obtain ⟨r1, r2, ⟨y0, y1, y2, y3, y4, y5⟩, ⟨t, t1, t2, t3⟩, r5, img⟩ := id R
  have n6 := I.1.2.2.2.2.2.2.1
  rcases img with ⟨e1, e2⟩ | ⟨e1, e2, T, hT, hK, IT⟩
  · refine Agr.ref H 3 (by decide) ?_ (fun hm' hf => ?_)
    · unfold f_X5_back
      rw [if_pos e1, ref_5, b2_s]
      rfl
    · unfold f_X6_back
      rw [hf.1 _ _ (by decide), if_pos e2, nof_5, b2_s]
      rfl
  · have m6 := IT.1.2.2.2.2.2.2.1
    obtain ⟨σ1, u1, u2, u3⟩ := c_take (x := 39) (y := 57) isH39 (Or.inr (Or.inl rfl)) (by decide) hT hc.2.2.2.2.1 hc.2.2.2.2.2
    obtain ⟨σ2, v1, v2, v3⟩ := c_drop (σ := σ1) (n := nk T) u2.1.2.2.2.2.2.1
    have fC : Fr (fun a _ => (39 ≤ a ∧ a ≤ 54) ∨ (21 ≤ a ∧ a ≤ 35)) σ σ2 := (u3.w fun a j z => by omega).t (v3.w fun a j z => by omega)
    have hc2 : HC σ2 39 T := u2.cf (v3.w fun a j z => by unfold CF; omega)
    have hK2 : HK σ2 105 T := hK.fr fC (fun j z => by omega)
    obtain ⟨σ3, w1, w2, w3⟩ := m_again hK2 (Or.inl rfl)
    have fM : Fr (fun a j => ((39 ≤ a ∧ a ≤ 54) ∨ (21 ≤ a ∧ a ≤ 35)) ∨ AgF a j) σ σ3 := (fC.w fun a j z => Or.inl z).t (w3.w fun a j z => Or.inr z)
    have e94 : ∀ s, σ3.1 94 s = σ.1 94 s := fun s => fM.1 _ _ (by unfold AgF; omega)
    obtain ⟨σ4, x1, x2, x3⟩ := m_drop (σ := σ3) (n := nk T) (n0 := nk S) m6 n6 w2.1.2.2.2.1 (fun s hs => by rw [e94]; exact (r2 s hs).2.2.1)
    have fA : Fr (fun a j => ((39 ≤ a ∧ a ≤ 54) ∨ (21 ≤ a ∧ a ≤ 35 ∧ j = 0)) ∨ AgF a j ∨ a = 94) σ σ4 := (((u3.w fun a j z => by omega).t (v3.w fun a j z => by omega)).t (w3.w fun a j z => Or.inr (Or.inl z))).t (x3.w fun a j z => Or.inr (Or.inr z))
    have nA : ∀ a j, ¬ ((39 ≤ a ∧ a ≤ 54) ∨ (21 ≤ a ∧ a ≤ 35 ∧ j = 0)) → ¬ AgF a j → a ≠ 94 → σ4.1 a j = σ.1 a j := fun a j p q r => fA.1 a j (fun z => z.elim p (fun z => z.elim q r))
    refine ⟨1, σ2, σ4, ?_, ?_, T, ?_, ?_, IT, ?_⟩
    · show f_X5_back σ 0 = _
      unfold f_X5_back
      rw [if_neg (by rw [e1]; decide)]
      exact bind_e u1 v1
    · show f_X6_back σ2 93 = _
      unfold f_X6_back
      rw [fC.1 93 23 (by omega), if_neg (by rw [e2]; decide)]
      exact bind_e w1 x1
    · exact hc2.cf ((w3.w fun a j z => by unfold AgF at z; unfold CF; omega).t (x3.w fun a j z => by unfold CF; omega))
    · exact w2.fr (x3.w fun a j z => by unfold MF; omega)
    · refine ⟨fun i hi => ?_, fun s hs => ?_, ⟨?_, ?_, ?_, ?_, ?_, fun j hj => ?_⟩, ⟨t, t1, ?_, ?_⟩, fun i hi => ?_, ?_⟩
      · rw [nA 1 i (by omega) (by unfold AgF; omega) (by decide), nA 104 _ (by omega) (by unfold AgF; omega) (by decide)]; exact r1 i hi
      · obtain ⟨s1, s2, s3, s4, s5⟩ := r2 s hs
        have q1 : σ4.1 (21 + 2 * s) 0 = drp (nk T) (σ.1 94 s) := by
          rw [x3.1 _ _ (by omega), w3.1 _ _ (by unfold AgF; omega), v2 s hs, u3.1 _ _ (by omega), s1]
        have q2 : σ4.1 94 s = drp (nk T) (σ.1 94 s) := by rw [x2 s hs, e94]
        refine ⟨by rw [q1, q2], ?_, by rw [q2]; exact (drp_ok s3 n6 m6).2, ?_, fun i hi => ?_⟩
        · rw [nA _ _ (by omega) (by unfold AgF; omega) (by omega), nA 95 _ (by omega) (by unfold AgF; omega) (by decide)]; exact s2
        · rw [nA 95 _ (by omega) (by unfold AgF; omega) (by decide)]; exact s4
        · rw [fA.2]; exact s5 i hi
      · rw [nA _ _ (by omega) (by unfold AgF; omega) (by decide)]; exact y0
      · rw [nA _ _ (by omega) (by unfold AgF; omega) (by decide)]; exact y1
      · rw [nA _ _ (by omega) (by unfold AgF; omega) (by decide)]; exact y2
      · rw [nA _ _ (by omega) (by unfold AgF; omega) (by decide)]; exact y3
      · rw [nA _ _ (by omega) (by unfold AgF; omega) (by decide)]; exact y4
      · rw [nA _ _ (by omega) (by unfold AgF; omega) (by decide)]; exact y5 j hj
      · rw [nA _ _ (by omega) (by unfold AgF; omega) (by decide)]; exact t2
      · rw [nA _ _ (by omega) (by unfold AgF; omega) (by decide)]; exact t3
      · rw [nA 4 _ (by omega) (by unfold AgF; omega) (by decide), nA 103 _ (by omega) (by unfold AgF; omega) (by decide)]; exact r5 i hi
      · refine Or.inr ⟨?_, ?_, T, ?_, ?_, IT⟩
        · rw [nA _ _ (by omega) (by unfold AgF; omega) (by decide)]; exact e1
        · rw [nA _ _ (by omega) (by unfold AgF; omega) (by decide)]; exact e2
        · exact hT.fr fA (fun a j p q z => by unfold AgF at z; omega)
        · exact hK.fr fA (fun j z => by unfold AgF at z; omega)
end IMAGE
