theorem ln4 : ln 4 = 250 := by decide +kernel
theorem Agr.tp {f g : St → Option (Int32 × St)} {σ σ1 σ2 : St} {S : HS} {r : Int32} {t' : Nat} (H : Sm σ S) (h1 : f σ = some (r, σ1)) (f1 : Fr (fun a j => (a = 3 ∧ j = 1) ∨ a = 4) σ σ1) (h2 : g σ1 = some (r, σ2)) (f2 : Fr (fun a j => (a = 93 ∧ j = 16) ∨ a = 103) σ1 σ2) (ht : t' ≤ 250) (e1 : σ2.1 3 1 = nI t') (e2 : σ2.1 93 16 = nI t') (e3 : ∀ i, i < 250 → σ2.1 4 i = σ2.1 103 i ∧ ∃ v, v ≤ 255 ∧ σ2.1 103 i = nI v) : Agr f g σ := by
  obtain ⟨hc, hm, I, ⟨r1, r2, ⟨y0, y1, y2, y3, y4, y5⟩, -, -, img⟩⟩ := id H
  have F : Fr (fun a j => (a = 3 ∧ j = 1) ∨ a = 4 ∨ (a = 93 ∧ j = 16) ∨ a = 103) σ σ2 := (f1.w fun a j z => by omega).t (f2.w fun a j z => by omega)
  refine ⟨r, σ1, σ2, h1, h2, S, hc.cf (F.w fun a j z => by unfold CF; omega), hm.fr (F.w fun a j z => by unfold MF; omega), I, ⟨fun i hi => ?_, fun s hs => ?_, ⟨?_, ?_, ?_, ?_, ?_, fun j hj => ?_⟩, ⟨t', ht, e1, e2⟩, e3, ?_⟩⟩
  · rw [F.1 1 i (by omega), F.1 104 _ (by omega)]; exact r1 i hi
  · have := r2 s hs
    unfold Shv at this ⊢
    rw [F.1 (21 + 2 * s) 0 (by omega), F.1 94 s (by omega), F.1 (21 + 2 * s) 1 (by omega), F.1 95 s (by omega), F.2]
    exact this
  · rw [F.1 _ _ (by omega)]; exact y0
  · rw [F.1 _ _ (by omega)]; exact y1
  · rw [F.1 _ _ (by omega)]; exact y2
  · rw [F.1 _ _ (by omega)]; exact y3
  · rw [F.1 _ _ (by omega)]; exact y4
  · rw [F.1 _ _ (by omega)]; exact y5 j hj
  · unfold Img at img ⊢
    rw [F.1 0 8 (by omega), F.1 93 23 (by omega)]
    rcases img with g | ⟨g1, g2, S', g3, g4, g5⟩
    · exact Or.inl g
    · exact Or.inr ⟨g1, g2, S', g3.fr F (fun a j u v z => by omega), g4.fr F (fun j z => by omega), g5⟩
section TAPE
variable {σ : St} {S : HS}
theorem op_wipe (H : Sm σ S) : Agr (fun s => f_X5_wipe s 0) (fun s => f_X6_wipe s 93) σ := by
  obtain ⟨t, t1, t2, t3⟩ := H.2.2.2.2.2.2.1
  refine Agr.tp (r := nI t) (σ1 := setI σ 3 1 0) (σ2 := setI (setI σ 3 1 0) 93 16 0) (t' := 0) H ?_ (Fr.i (by omega)) ?_ (Fr.i (by omega)) (by omega) ?_ ?_ (fun i hi => ?_)
  · show f_X5_wipe σ 0 = _
    unfold f_X5_wipe
    rw [t2, bind_s, ptI_s, bind_s]
  · show f_X6_wipe (setI σ 3 1 0) 93 = _
    unfold f_X6_wipe
    rw [setI_a (by decide), t3, bind_s, ptI_s, bind_s]
  · rw [setI_a (by decide), setI_s]; rfl
  · rw [setI_s]; rfl
  · rw [setI_a (by decide), setI_a (by decide), setI_a (by decide), setI_a (by decide)]
    exact H.2.2.2.2.2.2.2.1 i hi
theorem op_feed (H : Sm σ S) (x : Int32) : Agr (fun s => f_X5_feed s 0 x) (fun s => f_X6_feed s 93 x) σ := by
  obtain ⟨t, t1, t2, t3⟩ := H.2.2.2.2.2.2.1
  have tp := H.2.2.2.2.2.2.2.1
  by_cases q : inR x 0 256
  · obtain ⟨v, v0, hv, rfl⟩ := q
    by_cases ht : t < 250
    · refine Agr.tp (r := nI (t + 1)) (σ1 := setI (setI σ 4 t (nI v)) 3 1 (nI (t + 1))) (σ2 := setI (setI (setI (setI σ 4 t (nI v)) 3 1 (nI (t + 1))) 93 16 (nI (t + 1))) 103 t (nI v)) (t' := t + 1) H ?_ ((Fr.i (by omega)).t (Fr.i (by omega))) ?_ ((Fr.i (by omega)).t (Fr.i (by omega))) (by omega) ?_ ?_ (fun i hi => ?_)
      · show f_X5_feed σ 0 (nI v) = _
        unfold f_X5_feed f_X3_add
        rw [wi_0_255 v0 hv, bind_s, if_neg (by decide), t2, if_pos (show nI t < 250 from (nI_ltI (a := t) (b := 250) (by omega) (by decide)).mpr ht), c_put (by rw [ln4]; exact ht), bind_s, setI_a (by decide), t2, nI_1, ptI_s, bind_s, b2_s, if_neg (by decide), setI_s]
      · show f_X6_feed (setI (setI σ 4 t (nI v)) 3 1 (nI (t + 1))) 93 (nI v) = _
        have e16 : (setI (setI σ 4 t (nI v)) 3 1 (nI (t + 1))).1 93 16 = nI t := by rw [setI_a (by decide), setI_a (by decide), t3]
        unfold f_X6_feed
        rw [w_6, wi_0_255 v0 hv, bind_s, if_neg (by decide), e16, if_neg (show ¬ nI t = 250 from fun z => by have := nI_inj (a := t) (b := 250) (by omega) (by decide) z; omega), nI_1, ptI_s, bind_s, stI_n (by rw [ln103]; exact ht), bind_s, setI_a (by decide), setI_s]
      · rw [setI_a (by decide), setI_a (by decide), setI_s]
      · rw [setI_a (by decide), setI_s]
      · by_cases e : i = t
        · rw [e, setI_a (by decide), setI_a (by decide), setI_a (by decide), setI_s, setI_s]
          exact ⟨rfl, v, by omega, rfl⟩
        · rw [setI_a (by decide), setI_a (by decide), setI_a (by decide), setI_k e, setI_k e, setI_a (by decide), setI_a (by decide), setI_a (by decide)]
          exact tp i hi
    · have te : t = 250 := by omega
      subst te
      refine Agr.ref H 4 (by decide) ?_ (fun hm' hf => ?_)
      · unfold f_X5_feed f_X3_add
        rw [wi_0_255 v0 hv, bind_s, if_neg (by decide), t2, if_neg (by decide), b2_s, if_pos rfl, ref_6, b2_s]
        rfl
      · unfold f_X6_feed
        rw [w_6, wi_0_255 v0 hv, bind_s, if_neg (by decide), hf.1 93 16 (by decide), t3, if_pos (by decide), nof_6, b2_s]
        rfl
  · refine Agr.ref H 0 (by decide) ?_ (fun hm' hf => ?_)
    · unfold f_X5_feed
      rw [wo_0_255 q, bind_s, if_pos rfl, ref_2, b2_s]
      rfl
    · unfold f_X6_feed
      rw [w_6, wo_0_255 q, bind_s, if_pos rfl, nof_2, b2_s]
      rfl
end TAPE
/-! tokens, as numbers -/
def so (v : Nat) : Nat := if 97 ≤ v ∧ v ≤ 122 then 1 else if 48 ≤ v ∧ v ≤ 57 then 2 else if v = 59 then 3 else 4
def sk (T : Nat → Nat) : Nat → Nat → Nat
  | 0, e => e
  | k + 1, e => if T e = 32 then sk T k (e + 1) else e
def rn (T : Nat → Nat) (c : Nat) : Nat → Nat → Nat
  | 0, e => e
  | k + 1, e => if so (T e) = c then rn T c k (e + 1) else e
theorem sk_le (T : Nat → Nat) : ∀ k e, e ≤ sk T k e ∧ sk T k e ≤ e + k
  | 0, e => ⟨Nat.le_refl _, Nat.le_refl _⟩
  | k + 1, e => by
    have := sk_le T k (e + 1)
    rw [sk]
    split <;> omega
theorem rn_le (T : Nat → Nat) (c : Nat) : ∀ k e, e ≤ rn T c k e ∧ rn T c k e ≤ e + k
  | 0, e => ⟨Nat.le_refl _, Nat.le_refl _⟩
  | k + 1, e => by
    have := rn_le T c k (e + 1)
    rw [rn]
    split <;> omega
theorem rn_all (T : Nat → Nat) (c : Nat) : ∀ k e i, e ≤ i → i < rn T c k e → so (T i) = c
  | 0, e, i, h1, h2 => by rw [rn] at h2; omega
  | k + 1, e, i, h1, h2 => by
    rw [rn] at h2
    split at h2
    · rename_i q
      by_cases z : i = e
      · rw [z]; exact q
      · exact rn_all T c k (e + 1) i (by omega) h2
    · omega
def tp (T : Nat → Nat) (n e : Nat) : Nat := sk T (n - e) e
def tc (T : Nat → Nat) (n e : Nat) : Nat := if tp T n e < n then so (T (tp T n e)) else 0
def tq (T : Nat → Nat) (n e : Nat) : Nat := if tp T n e < n then (if tc T n e = 1 ∨ tc T n e = 2 then rn T (tc T n e) (n - (tp T n e + 1)) (tp T n e + 1) else tp T n e + 1) else tp T n e
theorem so_b (v : Nat) : 1 ≤ so v ∧ so v ≤ 4 := by unfold so; split <;> (try split) <;> (try split) <;> omega
theorem tp_le {T : Nat → Nat} {n e : Nat} (h : e ≤ n) : e ≤ tp T n e ∧ tp T n e ≤ n := by
  have := sk_le T (n - e) e
  unfold tp
  omega
theorem tq_le {T : Nat → Nat} {n e : Nat} (h : e ≤ n) : tp T n e ≤ tq T n e ∧ tq T n e ≤ n ∧ (tc T n e ≠ 0 → tp T n e < tq T n e) := by
  have h1 := tp_le (T := T) h
  have h2 := rn_le T (tc T n e) (n - (tp T n e + 1)) (tp T n e + 1)
  unfold tq
  by_cases q : tp T n e < n
  · rw [if_pos q]
    by_cases q2 : tc T n e = 1 ∨ tc T n e = 2
    · rw [if_pos q2]
      omega
    · rw [if_neg q2]
      omega
  · rw [if_neg q]
    refine ⟨Nat.le_refl _, h1.2, fun z => ?_⟩
    unfold tc at z
    rw [if_neg q] at z
    exact absurd rfl z
theorem tc_n {T : Nat → Nat} {n e : Nat} (h : e ≤ n) (hc : tc T n e ≠ 0) : tp T n e < n := by
  unfold tc at hc
  by_cases q : tp T n e < n
  · exact q
  · rw [if_neg q] at hc
    exact absurd rfl hc
theorem tc_4 (T : Nat → Nat) (n e : Nat) : tc T n e ≤ 4 := by
  unfold tc
  split
  · exact (so_b _).2
  · exact Nat.zero_le _
/-- the number of a token, of two digits at most -/
def vdn (T : Nat → Nat) (p j : Nat) : Nat := if j = 0 then 0 else if j = 1 then T p - 48 else 10 * (T p - 48) + (T (p + 1) - 48)
def dv (T : Nat → Nat) (p q : Nat) : Nat := if q - p ≤ 2 then vdn T p (q - p) else 1000
def TcF (a j : Nat) : Prop := a = 3 ∧ 2 ≤ j ∧ j ≤ 4
def TmF (a j : Nat) : Prop := a = 93 ∧ 18 ≤ j ∧ j ≤ 21
def Tc (σ : St) (T : Nat → Nat) (n : Nat) : Prop := σ.1 3 1 = nI n ∧ ∀ i, i < 250 → σ.1 4 i = nI (T i)
def Tm (σ : St) (T : Nat → Nat) (n : Nat) : Prop := σ.1 93 16 = nI n ∧ ∀ i, i < 250 → σ.1 103 i = nI (T i)
def Tb (T : Nat → Nat) (n : Nat) : Prop := n ≤ 250 ∧ ∀ i, T i ≤ 255
def CT (σ : St) (T : Nat → Nat) (n e : Nat) : Prop := σ.1 3 2 = nI (tc T n e) ∧ σ.1 3 3 = nI (tp T n e) ∧ σ.1 3 4 = nI (tq T n e)
def cdI (c : Nat) : Int32 := if c = 4 then -1 else nI c
def MT (σ : St) (T : Nat → Nat) (n e : Nat) : Prop := σ.1 93 18 = nI (tq T n e) ∧ σ.1 93 19 = nI (tp T n e) ∧ σ.1 93 20 = cdI (tc T n e) ∧ (tc T n e = 2 → σ.1 93 21 = nI (dv T (tp T n e) (tq T n e)))
theorem c_so : ∀ v, v < 256 → f_X3_sortOf 3 (nI v) = some (nI (so v)) := by decide +kernel
theorem m_let : ∀ v, v < 256 → f_X6_isLetter (nI v) = some (if so v = 1 then 1 else 0) := by decide +kernel
theorem m_dgt : ∀ v, v < 256 → f_X6_isDigit (nI v) = some (if so v = 2 then 1 else 0) := by decide +kernel
theorem so_59 : ∀ v, v < 256 → so v ≠ 1 → so v ≠ 2 → (nI v = 59 ↔ so v = 3) := by decide +kernel
section TOK
variable {σ : St} {T : Nat → Nat} {n : Nat}
theorem Tc.fr {σ' : St} (h : Tc σ T n) (f : Fr TcF σ σ') : Tc σ' T n := ⟨by rw [f.1 _ _ (by unfold TcF; omega)]; exact h.1, fun i hi => by rw [f.1 _ _ (by unfold TcF; omega)]; exact h.2 i hi⟩
theorem Tm.fr {σ' : St} (h : Tm σ T n) (f : Fr TmF σ σ') : Tm σ' T n := ⟨by rw [f.1 _ _ (by unfold TmF; omega)]; exact h.1, fun i hi => by rw [f.1 _ _ (by unfold TmF; omega)]; exact h.2 i hi⟩
theorem c_ltr (h : Tc σ T n) {i : Nat} (hi : i < 250) : f_X5_at σ 4 (nI i) = some (nI (T i)) := by rw [c_at (by rw [ln4]; exact hi), h.2 i hi]
theorem m_ltr (h : Tm σ T n) {i : Nat} (hi : i < 250) : ldI σ 103 (nI i) = some (nI (T i)) := by rw [ldI_n (by rw [ln103]; exact hi), h.2 i hi]
theorem c_l8 (hT : Tb T n) : ∀ k e f (σ1 : St), e + k = n → k < f → Tc σ1 T n → σ1.1 3 3 = nI e → ∃ σ2, f_X3_toNextToken_l8 f σ1 3 = f_X3_toNextToken_b48 σ2 3 ∧ σ2.1 3 3 = nI (sk T k e) ∧ Fr TcF σ1 σ2
  | _, _, 0, _, _, h, _, _ => absurd h (Nat.not_lt_zero _)
  | 0, e, f + 1, σ1, he, hf, h, h3 => by
    refine ⟨σ1, ?_, h3, Fr.r _⟩
    have hn := hT.1
    show f_X3_toNextToken_b8 (f_X3_toNextToken_l8 f) σ1 3 = _
    unfold f_X3_toNextToken_b8
    rw [h.1, h3, if_pos (nI_le (by omega) (by omega))]
  | k + 1, e, f + 1, σ1, he, hf, h, h3 => by
    have hn := hT.1
    have t5 := hT.2 e
    by_cases q : T e = 32
    · obtain ⟨σ2, u1, u2, u3⟩ := c_l8 hT k (e + 1) f (setI σ1 3 3 (nI (e + 1))) (by omega) (by omega) (h.fr (Fr.i (by unfold TcF; omega))) (setI_s _ _ _ _)
      refine ⟨σ2, ?_, ?_, (Fr.i (by unfold TcF; omega)).t u3⟩
      · show f_X3_toNextToken_b8 (f_X3_toNextToken_l8 f) σ1 3 = _
        unfold f_X3_toNextToken_b8
        rw [h.1, h3, if_neg (nI_ge (by omega) (by omega)), c_ltr h (by omega), bind_s, if_pos (by rw [q]; rfl), nI_1, ptI_s, bind_s]
        exact u1
      · rw [sk, if_pos q]; exact u2
    · refine ⟨σ1, ?_, ?_, Fr.r _⟩
      · show f_X3_toNextToken_b8 (f_X3_toNextToken_l8 f) σ1 3 = _
        unfold f_X3_toNextToken_b8
        rw [h.1, h3, if_neg (nI_ge (by omega) (by omega)), c_ltr h (by omega), bind_s, if_neg (show ¬ nI (T e) = 32 from fun z => q (nI_inj (a := T e) (b := 32) (by omega) (by decide) z))]
      · rw [sk, if_neg q]; exact h3
theorem c_l110 (hT : Tb T n) {c : Nat} (hc : c = 1 ∨ c = 2) : ∀ k e f (σ1 : St), e + k = n → k < f → Tc σ1 T n → σ1.1 3 2 = nI c → σ1.1 3 4 = nI e → ∃ σ2, f_X3_toNextToken_l110 f σ1 3 = some σ2 ∧ σ2.1 3 4 = nI (rn T c k e) ∧ Fr (fun a j => a = 3 ∧ j = 4) σ1 σ2
  | _, _, 0, _, _, h, _, _, _ => absurd h (Nat.not_lt_zero _)
  | 0, e, f + 1, σ1, he, hf, h, h2, h4 => by
    refine ⟨σ1, ?_, h4, Fr.r _⟩
    have hn := hT.1
    have b : f_X3_toNextToken_b126 (f_X3_toNextToken_l110 f) σ1 3 = some σ1 := by
      unfold f_X3_toNextToken_b126
      rw [h.1, h4, if_pos (nI_le (by omega) (by omega))]
    show f_X3_toNextToken_b110 (f_X3_toNextToken_l110 f) σ1 3 = _
    unfold f_X3_toNextToken_b110
    rw [h2, b]
    split
    · rfl
    · split <;> rfl
  | k + 1, e, f + 1, σ1, he, hf, h, h2, h4 => by
    have hn := hT.1
    have t5 := hT.2 e
    have s4 := (so_b (T e)).2
    have main : ∀ X, f_X3_toNextToken_b126 (f_X3_toNextToken_l110 f) σ1 3 = X → f_X3_toNextToken_l110 (f + 1) σ1 3 = X := by
      intro X hX
      show f_X3_toNextToken_b110 (f_X3_toNextToken_l110 f) σ1 3 = _
      unfold f_X3_toNextToken_b110
      rw [h2, hX]
      rcases hc with rfl | rfl
      · rw [if_pos (show nI 1 = 1 from rfl)]
      · rw [if_neg (show ¬ nI 2 = 1 by decide), if_pos (show nI 2 = 2 from rfl)]
    by_cases q : so (T e) = c
    · obtain ⟨σ2, u1, u2, u3⟩ := c_l110 hT hc k (e + 1) f (setI σ1 3 4 (nI (e + 1))) (by omega) (by omega) (h.fr (Fr.i (by unfold TcF; omega))) (by rw [setI_k (by decide)]; exact h2) (setI_s _ _ _ _)
      refine ⟨σ2, main _ ?_, ?_, (Fr.i ⟨rfl, rfl⟩).t u3⟩
      · unfold f_X3_toNextToken_b126
        rw [h.1, h4, if_neg (nI_ge (by omega) (by omega)), c_ltr h (by omega), bind_s, c_so _ (by omega), bind_s, h2, if_pos (by rw [q]), nI_1, ptI_s, bind_s]
        exact u1
      · rw [rn, if_pos q]; exact u2
    · refine ⟨σ1, main _ ?_, ?_, Fr.r _⟩
      · unfold f_X3_toNextToken_b126
        rw [h.1, h4, if_neg (nI_ge (by omega) (by omega)), c_ltr h (by omega), bind_s, c_so _ (by omega), bind_s, h2, if_neg (fun z => q (nI_inj (by omega) (by omega) z))]
      · rw [rn, if_neg q]; exact h4
theorem c_next (hT : Tb T n) {e : Nat} (he : e ≤ n) (h : Tc σ T n) (h4 : σ.1 3 4 = nI e) : ∃ σ', f_X3_toNextToken σ 3 = some σ' ∧ CT σ' T n e ∧ Fr TcF σ σ' := by
  have hn := hT.1
  have hp := tp_le (T := T) he
  have c4 := tc_4 T n e
  obtain ⟨σ2, u1, u2, u3⟩ := c_l8 hT (n - e) e FU (setI σ 3 3 (nI e)) (by omega) (by show n - e < 4000; omega) (h.fr (Fr.i (by unfold TcF; omega))) (setI_s _ _ _ _)
  have f2 : Fr TcF σ σ2 := (Fr.i (by unfold TcF; omega)).t u3
  have h2 := h.fr f2
  have e3 : σ2.1 3 3 = nI (tp T n e) := u2
  -- the sort is known: its end
  have fin : ∃ σ', f_X3_toNextToken_b79 σ2 3 3 (nI (tc T n e)) = some σ' ∧ CT σ' T n e ∧ Fr TcF σ σ' := by
    unfold f_X3_toNextToken_b79 f_X3_toNextToken_b107
    rw [ptI_s, bind_s, setI_k (by decide), setI_k (by decide), h2.1, e3]
    have f3 : Fr TcF σ (setI σ2 3 2 (nI (tc T n e))) := f2.t (Fr.i (by unfold TcF; omega))
    by_cases q : n ≤ tp T n e
    · have c0 : tc T n e = 0 := by
        unfold tc
        rw [if_neg (by omega)]
      have q0 : tq T n e = tp T n e := by
        unfold tq
        rw [if_neg (by omega)]
      rw [if_pos (nI_le q (by omega)), ptI_s, bind_s]
      refine ⟨setI (setI σ2 3 2 (nI (tc T n e))) 3 4 (nI (tp T n e)), ?_, ⟨?_, ?_, ?_⟩, f3.t (Fr.i (by unfold TcF; omega))⟩
      · show f_X3_toNextToken_b110 (f_X3_toNextToken_l110 3999) _ 3 = _
        unfold f_X3_toNextToken_b110
        rw [setI_k (by decide), setI_s, c0, if_neg (by decide), if_neg (by decide)]
      · rw [setI_k (by decide), setI_s]
      · rw [setI_k (by decide), setI_k (by decide), e3]
      · rw [setI_s, q0]
    · rw [if_neg (nI_ge (by omega) (by omega)), nI_1, ptI_s, bind_s]
      have f4 := f3.t (Fr.i (P := TcF) (σ := setI σ2 3 2 (nI (tc T n e))) (a := 3) (k := 4) (v := nI (tp T n e + 1)) (by unfold TcF; omega))
      by_cases q2 : tc T n e = 1 ∨ tc T n e = 2
      · obtain ⟨σ3, w1, w2, w3⟩ := c_l110 hT q2 (n - (tp T n e + 1)) (tp T n e + 1) FU (setI (setI σ2 3 2 (nI (tc T n e))) 3 4 (nI (tp T n e + 1))) (by omega) (by show n - _ < 4000; omega) (h.fr f4) (by rw [setI_k (by decide), setI_s]) (setI_s _ _ _ _)
        refine ⟨σ3, w1, ⟨?_, ?_, ?_⟩, f4.t (w3.w fun a j z => by unfold TcF; omega)⟩
        · rw [w3.1 _ _ (by omega), setI_k (by decide), setI_s]
        · rw [w3.1 _ _ (by omega), setI_k (by decide), setI_k (by decide), e3]
        · rw [w2]
          unfold tq
          rw [if_pos (show tp T n e < n by omega), if_pos q2]
      · refine ⟨_, ?_, ⟨?_, ?_, ?_⟩, f4⟩
        · show f_X3_toNextToken_b110 (f_X3_toNextToken_l110 3999) _ 3 = _
          unfold f_X3_toNextToken_b110
          rw [setI_k (by decide), setI_s, if_neg (show ¬ nI (tc T n e) = 1 from fun z => q2 (Or.inl (nI_inj (a := tc T n e) (b := 1) (by omega) (by decide) z))), if_neg (show ¬ nI (tc T n e) = 2 from fun z => q2 (Or.inr (nI_inj (a := tc T n e) (b := 2) (by omega) (by decide) z)))]
        · rw [setI_k (by decide), setI_s]
        · rw [setI_k (by decide), setI_k (by decide), e3]
        · rw [setI_s]
          unfold tq
          rw [if_pos (show tp T n e < n by omega), if_neg q2]
  obtain ⟨σ', v1, v2⟩ := fin
  refine ⟨σ', ?_, v2⟩
  unfold f_X3_toNextToken
  rw [h4, ptI_s, bind_s, u1]
  unfold f_X3_toNextToken_b48
  rw [h2.1, e3]
  by_cases q : n ≤ tp T n e
  · have c0 : tc T n e = 0 := by
      unfold tc
      rw [if_neg (by omega)]
    rw [if_pos (nI_le q (by omega))]
    rw [c0] at v1
    exact v1
  · have ec : tc T n e = so (T (tp T n e)) := by
      unfold tc
      rw [if_pos (by omega)]
    have t5 := hT.2 (tp T n e)
    rw [if_neg (nI_ge (by omega) (by omega)), c_ltr h2 (by omega), bind_s, c_so _ (by omega), bind_s, ← ec]
    exact v1
theorem m_l0 (hT : Tb T n) : ∀ k e f (σ1 : St), e + k = n → k < f → Tm σ1 T n → σ1.1 93 18 = nI e → ∃ σ2, f_X6_next_l0 f σ1 93 = f_X6_next_b38 σ2 93 ∧ σ2.1 93 18 = nI (sk T k e) ∧ Fr TmF σ1 σ2
  | _, _, 0, _, _, h, _, _ => absurd h (Nat.not_lt_zero _)
  | 0, e, f + 1, σ1, he, hf, h, h3 => by
    refine ⟨σ1, ?_, h3, Fr.r _⟩
    have hn := hT.1
    show f_X6_next_b0 (f_X6_next_l0 f) σ1 93 = _
    unfold f_X6_next_b0
    rw [h.1, h3, if_pos (nI_le (by omega) (by omega))]
  | k + 1, e, f + 1, σ1, he, hf, h, h3 => by
    have hn := hT.1
    have t5 := hT.2 e
    by_cases q : T e = 32
    · obtain ⟨σ2, u1, u2, u3⟩ := m_l0 hT k (e + 1) f (setI σ1 93 18 (nI (e + 1))) (by omega) (by omega) (h.fr (Fr.i (by unfold TmF; omega))) (setI_s _ _ _ _)
      refine ⟨σ2, ?_, ?_, (Fr.i (by unfold TmF; omega)).t u3⟩
      · show f_X6_next_b0 (f_X6_next_l0 f) σ1 93 = _
        unfold f_X6_next_b0
        rw [h.1, h3, if_neg (nI_ge (by omega) (by omega)), m_ltr h (by omega), bind_s, if_pos (by rw [q]; rfl), nI_1, ptI_s, bind_s]
        exact u1
      · rw [sk, if_pos q]; exact u2
    · refine ⟨σ1, ?_, ?_, Fr.r _⟩
      · show f_X6_next_b0 (f_X6_next_l0 f) σ1 93 = _
        unfold f_X6_next_b0
        rw [h.1, h3, if_neg (nI_ge (by omega) (by omega)), m_ltr h (by omega), bind_s, if_neg (show ¬ nI (T e) = 32 from fun z => q (nI_inj (a := T e) (b := 32) (by omega) (by decide) z))]
      · rw [sk, if_neg q]; exact h3
theorem m_l85 (hT : Tb T n) : ∀ k e f (σ1 : St), e + k = n → k < f → Tm σ1 T n → σ1.1 93 18 = nI e → ∃ σ2, f_X6_next_l85 f σ1 93 = some σ2 ∧ σ2.1 93 18 = nI (rn T 1 k e) ∧ Fr (fun a j => a = 93 ∧ j = 18) σ1 σ2
  | _, _, 0, _, _, h, _, _ => absurd h (Nat.not_lt_zero _)
  | 0, e, f + 1, σ1, he, hf, h, h3 => by
    refine ⟨σ1, ?_, h3, Fr.r _⟩
    have hn := hT.1
    show f_X6_next_b85 (f_X6_next_l85 f) σ1 93 = _
    unfold f_X6_next_b85
    rw [h.1, h3, if_pos (nI_le (by omega) (by omega))]
  | k + 1, e, f + 1, σ1, he, hf, h, h3 => by
    have hn := hT.1
    have t5 := hT.2 e
    by_cases q : so (T e) = 1
    · obtain ⟨σ2, u1, u2, u3⟩ := m_l85 hT k (e + 1) f (setI σ1 93 18 (nI (e + 1))) (by omega) (by omega) (h.fr (Fr.i (by unfold TmF; omega))) (setI_s _ _ _ _)
      refine ⟨σ2, ?_, ?_, (Fr.i ⟨rfl, rfl⟩).t u3⟩
      · show f_X6_next_b85 (f_X6_next_l85 f) σ1 93 = _
        unfold f_X6_next_b85
        rw [h.1, h3, if_neg (nI_ge (by omega) (by omega)), m_ltr h (by omega), bind_s, m_let _ (by omega), bind_s, if_pos q, if_neg (by decide), nI_1, ptI_s, bind_s]
        exact u1
      · rw [rn, if_pos q]; exact u2
    · refine ⟨σ1, ?_, ?_, Fr.r _⟩
      · show f_X6_next_b85 (f_X6_next_l85 f) σ1 93 = _
        unfold f_X6_next_b85
        rw [h.1, h3, if_neg (nI_ge (by omega) (by omega)), m_ltr h (by omega), bind_s, m_let _ (by omega), bind_s, if_neg q, if_pos rfl]
      · rw [rn, if_neg q]; exact h3
theorem so_2 {v : Nat} (h : so v = 2) : 48 ≤ v ∧ v ≤ 57 := by
  unfold so at h
  split at h
  · omega
  · split at h
    · rename_i q; exact q
    · split at h <;> omega
theorem vdn_s (p j : Nat) (hj : j ≤ 1) (h : 48 ≤ T (p + j)) : 10 * vdn T p j + T (p + j) - 48 = vdn T p (j + 1) := by
  rcases (show j = 0 ∨ j = 1 by omega) with rfl | rfl
  · unfold vdn
    rw [if_pos rfl, if_neg (by omega), if_pos rfl]
    show 10 * 0 + T p - 48 = T p - 48
    omega
  · unfold vdn
    rw [if_neg (by omega), if_pos rfl, if_neg (by omega), if_neg (by omega)]
    omega
theorem m_l141 (hT : Tb T n) {p : Nat} : ∀ k e f (σ1 : St), p ≤ e → e + k = n → k < f → Tm σ1 T n → σ1.1 93 18 = nI e → σ1.1 93 19 = nI p → (e - p ≤ 2 → σ1.1 93 21 = nI (vdn T p (e - p))) → ∃ σ2, f_X6_next_l141 f σ1 93 = some σ2 ∧ σ2.1 93 18 = nI (rn T 2 k e) ∧ σ2.1 93 21 = (if rn T 2 k e - p ≤ 2 then nI (vdn T p (rn T 2 k e - p)) else 1000) ∧ Fr (fun a j => a = 93 ∧ (j = 18 ∨ j = 21)) σ1 σ2
  | _, _, 0, _, _, _, h, _, _, _, _ => absurd h (Nat.not_lt_zero _)
  | 0, e, f + 1, σ1, hp, he, hf, h, h3, h19, h21 => by
    have hn := hT.1
    have fin : f_X6_next_l141 (f + 1) σ1 93 = f_X6_next_b217 σ1 93 := by
      show f_X6_next_b141 (f_X6_next_l141 f) σ1 93 = _
      unfold f_X6_next_b141
      rw [h.1, h3, if_pos (nI_le (by omega) (by omega))]
    rw [fin]
    unfold f_X6_next_b217
    rw [h3, h19, pk_sub hp, rn]
    by_cases q : e - p ≤ 2
    · rw [if_pos (show nI (e - p) ≤ 2 from nI_le (a := e - p) (b := 2) q (by decide)), if_pos q]
      exact ⟨σ1, rfl, h3, h21 q, Fr.r _⟩
    · rw [if_neg (show ¬ nI (e - p) ≤ 2 from nI_ge (a := 2) (b := e - p) (by omega) (by omega)), if_neg q, ptI_s, bind_s]
      exact ⟨_, rfl, by rw [setI_k (by decide)]; exact h3, setI_s _ _ _ _, Fr.i (by omega)⟩
  | k + 1, e, f + 1, σ1, hp, he, hf, h, h3, h19, h21 => by
    have hn := hT.1
    have t5 := hT.2 e
    by_cases q : so (T e) = 2
    · have dg2 := so_2 q
      have step : ∀ σ1' : St, Fr (fun a j => a = 93 ∧ j = 21) σ1 σ1' → (e + 1 - p ≤ 2 → σ1'.1 93 21 = nI (vdn T p (e + 1 - p))) → ∃ σ2, f_X6_next_b204 (f_X6_next_l141 f) σ1' 93 = some σ2 ∧ σ2.1 93 18 = nI (rn T 2 (k + 1) e) ∧ σ2.1 93 21 = (if rn T 2 (k + 1) e - p ≤ 2 then nI (vdn T p (rn T 2 (k + 1) e - p)) else 1000) ∧ Fr (fun a j => a = 93 ∧ (j = 18 ∨ j = 21)) σ1 σ2 := by
        intro σ1' f1 g
        have e18 : σ1'.1 93 18 = nI e := by rw [f1.1 _ _ (by omega)]; exact h3
        obtain ⟨σ2, u1, u2, u3, u4⟩ := m_l141 hT (p := p) k (e + 1) f (setI σ1' 93 18 (nI (e + 1))) (by omega) (by omega) (by omega) (h.fr ((f1.w fun a j z => by unfold TmF; omega).t (Fr.i (by unfold TmF; omega)))) (setI_s _ _ _ _) (by rw [setI_k (by decide), f1.1 _ _ (by omega)]; exact h19) (fun z => by rw [setI_k (by decide)]; exact g z)
        rw [rn, if_pos q]
        refine ⟨σ2, ?_, u2, u3, ((f1.w fun a j z => by omega).t (Fr.i (by omega))).t u4⟩
        unfold f_X6_next_b204
        rw [e18, nI_1, ptI_s, bind_s]
        exact u1
      have hd : f_X6_next_l141 (f + 1) σ1 93 = if 3 ≤ nI (e - p) then f_X6_next_b204 (f_X6_next_l141 f) σ1 93 else ((some (nI (T e)) : Option Int32).bind fun v_196 => ((ptI σ1 93 21 (((10 * (σ1.1 93 21)) + v_196) - 48)).bind fun s_201 => (f_X6_next_b204 (f_X6_next_l141 f) s_201 93))) := by
        show f_X6_next_b141 (f_X6_next_l141 f) σ1 93 = _
        unfold f_X6_next_b141
        rw [h.1, h3, if_neg (nI_ge (by omega) (by omega)), m_ltr h (by omega), bind_s, m_dgt _ (by omega), bind_s, if_pos q, if_neg (by decide), h19, pk_sub hp]
      rw [hd]
      by_cases w : 3 ≤ e - p
      · rw [if_pos (show (3 : Int32) ≤ nI (e - p) from nI_le (a := 3) (b := e - p) w (by omega))]
        exact step σ1 (Fr.r _) (fun z => by omega)
      · rw [if_neg (show ¬ (3 : Int32) ≤ nI (e - p) from nI_ge (a := e - p) (b := 3) (by omega) (by decide)), bind_s, ptI_s, bind_s]
        refine step _ (Fr.i ⟨rfl, rfl⟩) (fun z => ?_)
        have vs := vdn_s (T := T) p (e - p) (by omega) (by rw [show p + (e - p) = e by omega]; exact dg2.1)
        rw [show p + (e - p) = e by omega] at vs
        rw [setI_s, h21 (by omega), show (10 : Int32) = nI 10 from rfl, pk_mul, nI_add, show (48 : Int32) = nI 48 from rfl, pk_sub (by omega), show e + 1 - p = e - p + 1 by omega, vs]
    · have fin : f_X6_next_l141 (f + 1) σ1 93 = f_X6_next_b217 σ1 93 := by
        show f_X6_next_b141 (f_X6_next_l141 f) σ1 93 = _
        unfold f_X6_next_b141
        rw [h.1, h3, if_neg (nI_ge (by omega) (by omega)), m_ltr h (by omega), bind_s, m_dgt _ (by omega), bind_s, if_neg q, if_pos rfl]
      rw [fin]
      unfold f_X6_next_b217
      rw [h3, h19, pk_sub hp, rn, if_neg q]
      by_cases q : e - p ≤ 2
      · rw [if_pos (show nI (e - p) ≤ 2 from nI_le (a := e - p) (b := 2) q (by decide)), if_pos q]
        exact ⟨σ1, rfl, h3, h21 q, Fr.r _⟩
      · rw [if_neg (show ¬ nI (e - p) ≤ 2 from nI_ge (a := 2) (b := e - p) (by omega) (by omega)), if_neg q, ptI_s, bind_s]
        exact ⟨_, rfl, by rw [setI_k (by decide)]; exact h3, setI_s _ _ _ _, Fr.i (by omega)⟩
theorem m_next (hT : Tb T n) {e : Nat} (he : e ≤ n) (h : Tm σ T n) (h18 : σ.1 93 18 = nI e) : ∃ σ', f_X6_next σ 93 = some σ' ∧ MT σ' T n e ∧ Fr TmF σ σ' := by
  have hn := hT.1
  have hp := tp_le (T := T) he
  obtain ⟨σ2, u1, u2, u3⟩ := m_l0 hT (n - e) e FU σ (by omega) (by show n - e < 4000; omega) h h18
  have h2 := h.fr u3
  have e18 : σ2.1 93 18 = nI (tp T n e) := u2
  have f3 : Fr TmF σ (setI σ2 93 19 (nI (tp T n e))) := u3.t (Fr.i (by unfold TmF; omega))
  have h3 := h.fr f3
  have fin : ∃ σ', f_X6_next_b38 σ2 93 = some σ' ∧ MT σ' T n e ∧ Fr TmF σ σ' := by
    unfold f_X6_next_b38
    rw [e18, ptI_s, bind_s, setI_k (by decide), e18, h3.1]
    by_cases q : tp T n e = n
    · have c0 : tc T n e = 0 := by
        unfold tc
        rw [if_neg (by omega)]
      have q0 : tq T n e = tp T n e := by
        unfold tq
        rw [if_neg (by omega)]
      rw [if_pos (by rw [q]), ptI_s, bind_s]
      refine ⟨_, rfl, ⟨?_, ?_, ?_, fun z => by omega⟩, f3.t (Fr.i (by unfold TmF; omega))⟩
      · rw [setI_k (by decide), setI_k (by decide), e18, q0]
      · rw [setI_k (by decide), setI_s]
      · rw [setI_s, c0]; rfl
    · have hlt : tp T n e < n := by omega
      have ec : tc T n e = so (T (tp T n e)) := by
        unfold tc
        rw [if_pos hlt]
      have t5 := hT.2 (tp T n e)
      have s1 := so_b (T (tp T n e))
      rw [if_neg (fun z => q (nI_inj (by omega) (by omega) z)), m_ltr h3 (by omega), bind_s, m_let _ (by omega), bind_s, m_dgt _ (by omega), bind_s]
      by_cases c1 : so (T (tp T n e)) = 1
      · rw [if_pos c1, if_neg (by decide), ptI_s, bind_s]
        obtain ⟨σ4, w1, w2, w3⟩ := m_l85 hT (n - tp T n e) (tp T n e) FU (setI (setI σ2 93 19 (nI (tp T n e))) 93 20 1) (by omega) (by show n - _ < 4000; omega) (h3.fr (Fr.i (by unfold TmF; omega))) (by rw [setI_k (by decide), setI_k (by decide), e18])
        refine ⟨σ4, w1, ⟨?_, ?_, ?_, fun z => by omega⟩, (f3.t (Fr.i (by unfold TmF; omega))).t (w3.w fun a j z => by unfold TmF; omega)⟩
        · rw [w2]
          unfold tq
          rw [if_pos hlt, if_pos (Or.inl (ec.trans c1)), ec, c1, show n - tp T n e = n - (tp T n e + 1) + 1 by omega, rn, if_pos c1]
        · rw [w3.1 _ _ (by omega), setI_k (by decide), setI_s]
        · rw [w3.1 _ _ (by omega), setI_s, ec, c1]; rfl
      · rw [if_neg c1, if_pos rfl]
        by_cases c2 : so (T (tp T n e)) = 2
        · rw [if_pos c2, if_neg (by decide), ptI_s, bind_s, ptI_s, bind_s]
          obtain ⟨σ4, w1, w2, w3, w4⟩ := m_l141 hT (p := tp T n e) (n - tp T n e) (tp T n e) FU (setI (setI (setI σ2 93 19 (nI (tp T n e))) 93 20 2) 93 21 0) (Nat.le_refl _) (by omega) (by show n - _ < 4000; omega) (h3.fr ((Fr.i (by unfold TmF; omega)).t (Fr.i (by unfold TmF; omega)))) (by rw [setI_k (by decide), setI_k (by decide), setI_k (by decide), e18]) (by rw [setI_k (by decide), setI_k (by decide), setI_s]) (fun _ => by rw [setI_s, Nat.sub_self]; rfl)
          have er : rn T 2 (n - tp T n e) (tp T n e) = tq T n e := by
            unfold tq
            rw [if_pos hlt, if_pos (Or.inr (ec.trans c2)), ec, c2, show n - tp T n e = n - (tp T n e + 1) + 1 by omega, rn, if_pos c2]
          rw [er] at w2 w3
          refine ⟨σ4, w1, ⟨w2, ?_, ?_, fun _ => ?_⟩, ((f3.t (Fr.i (by unfold TmF; omega))).t (Fr.i (by unfold TmF; omega))).t (w4.w fun a j z => by unfold TmF; omega)⟩
          · rw [w4.1 _ _ (by omega), setI_k (by decide), setI_k (by decide), setI_s]
          · rw [w4.1 _ _ (by omega), setI_k (by decide), setI_s, ec, c2]; rfl
          · rw [w3]
            unfold dv
            split <;> rfl
        · rw [if_neg c2, if_pos rfl]
          have q1 : tq T n e = tp T n e + 1 := by
            unfold tq
            rw [if_pos hlt, if_neg (by omega)]
          have s59 := so_59 (T (tp T n e)) (by omega) c1 c2
          have go : ∀ v : Int32, v = cdI (tc T n e) → ∃ σ', f_X6_next_b252 (setI σ2 93 19 (nI (tp T n e))) 93 93 v = some σ' ∧ MT σ' T n e ∧ Fr TmF σ σ' := by
            intro v hv
            unfold f_X6_next_b252
            rw [ptI_s, bind_s, setI_k (by decide), setI_k (by decide), e18, nI_1, ptI_s, bind_s]
            refine ⟨_, rfl, ⟨?_, ?_, ?_, fun z => by omega⟩, (f3.t (Fr.i (by unfold TmF; omega))).t (Fr.i (by unfold TmF; omega))⟩
            · rw [setI_s, q1]
            · rw [setI_k (by decide), setI_k (by decide), setI_s]
            · rw [setI_k (by decide), setI_s, hv]
          by_cases c3 : so (T (tp T n e)) = 3
          · rw [if_pos (s59.mpr c3)]
            exact go 3 (by rw [ec, c3]; rfl)
          · rw [if_neg (fun z => c3 (s59.mp z))]
            exact go (-1) (by rw [ec, show so (T (tp T n e)) = 4 by omega]; rfl)
  obtain ⟨σ', v1, v2⟩ := fin
  refine ⟨σ', ?_, v2⟩
  unfold f_X6_next
  rw [u1]
  exact v1
end TOK
