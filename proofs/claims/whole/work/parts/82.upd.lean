/-! a house after one cell was written: the same new house on both sides -/
def sPl (S : HS) (v : Nat) : HS := (v, dp S, tg S, nk S, nl S, co S, se S, ki S, ow S, my S, cu S, wa S, as S)
theorem c_sPl {σ : St} {h : Nat} {S : HS} (H : HC σ h S) (v : Nat) : HC (setI σ h 0 (nI v)) h (sPl S v) := by
  refine ⟨⟨?_, ?_, ?_, ?_, ?_, ?_, ?_, ?_⟩, fun k' hk' => ⟨?_, ?_, ?_, fun p' hp' => ?_⟩, fun l' hl' p' hp' => ?_, fun p' hp' d' hd' => ?_, ?_, ?_⟩
  · rw [setI_s]; rfl
  · rw [setI_n (by (try unfold kI); omega)]; exact H.1.2.1
  · rw [setI_n (by (try unfold kI); omega)]; exact H.1.2.2.1
  · rw [setI_n (by (try unfold kI); omega)]; exact H.1.2.2.2.1
  · rw [setI_n (by (try unfold kI); omega)]; exact H.1.2.2.2.2.1
  · rw [setI_n (by (try unfold kI); omega)]; exact H.1.2.2.2.2.2.1
  · rw [setI_n (by (try unfold kI); omega)]; exact H.1.2.2.2.2.2.2.1
  · rw [setI_n (by (try unfold kI); omega)]; exact H.1.2.2.2.2.2.2.2
  · rw [setI_n (by (try unfold kI); omega)]; exact (H.2.1 k' hk').1
  · rw [setI_n (by (try unfold kI); omega)]; exact (H.2.1 k' hk').2.1
  · rw [setI_n (by (try unfold kI); omega)]; exact (H.2.1 k' hk').2.2.1
  · rw [setI_n (by (try unfold kI); omega)]; exact (H.2.1 k' hk').2.2.2 p' hp'
  · rw [setI_n (by (try unfold kI); omega)]; exact H.2.2.1 l' hl' p' hp'
  · rw [setI_n (by (try unfold kI); omega)]; exact H.2.2.2.1 p' hp' d' hd'
  · rw [setI_n (by (try unfold kI); omega)]; exact H.2.2.2.2.1
  · rw [setI_n (by (try unfold kI); omega)]; exact H.2.2.2.2.2
theorem m_sPl {σ : St} {S : HS} (H : HM σ S) (v : Nat) : HM (setI σ 93 3 (nI v)) (sPl S v) := by
  refine ⟨⟨?_, ?_, ?_, ?_, ?_, ?_, ?_⟩, fun k' hk' => ⟨?_, ?_, ?_⟩, fun k' hk' p' hp' => ?_, fun l' hl' => ?_, fun l' hl' p' hp' => ?_⟩
  · rw [setI_s]; rfl
  · rw [setI_n (by (try unfold kI); omega)]; exact H.1.2.1
  · rw [setI_n (by (try unfold kI); omega)]; exact H.1.2.2.1
  · rw [setI_n (by (try unfold kI); omega)]; exact H.1.2.2.2.1
  · rw [setI_n (by (try unfold kI); omega)]; exact H.1.2.2.2.2.1
  · rw [setI_n (by (try unfold kI); omega)]; exact H.1.2.2.2.2.2.1
  · rw [setI_n (by (try unfold kI); omega)]; exact H.1.2.2.2.2.2.2
  · rw [setI_n (by (try unfold kI); omega)]; exact (H.2.1 k' hk').1
  · rw [setI_n (by (try unfold kI); omega)]; exact (H.2.1 k' hk').2.1
  · rw [setI_n (by (try unfold kI); omega)]; exact (H.2.1 k' hk').2.2
  · rw [setI_n (by (try unfold kI); omega)]; exact H.2.2.1 k' hk' p' hp'
  · rw [setI_n (by (try unfold kI); omega)]; exact H.2.2.2.1 l' hl'
  · rw [setI_n (by (try unfold kI); omega)]; exact H.2.2.2.2 l' hl' p' hp'
def sDp (S : HS) (v : Nat) : HS := (pl S, v, tg S, nk S, nl S, co S, se S, ki S, ow S, my S, cu S, wa S, as S)
theorem c_sDp {σ : St} {h : Nat} {S : HS} (H : HC σ h S) (v : Nat) : HC (setI σ h 1 (nI v)) h (sDp S v) := by
  refine ⟨⟨?_, ?_, ?_, ?_, ?_, ?_, ?_, ?_⟩, fun k' hk' => ⟨?_, ?_, ?_, fun p' hp' => ?_⟩, fun l' hl' p' hp' => ?_, fun p' hp' d' hd' => ?_, ?_, ?_⟩
  · rw [setI_n (by (try unfold kI); omega)]; exact H.1.1
  · rw [setI_s]; rfl
  · rw [setI_n (by (try unfold kI); omega)]; exact H.1.2.2.1
  · rw [setI_n (by (try unfold kI); omega)]; exact H.1.2.2.2.1
  · rw [setI_n (by (try unfold kI); omega)]; exact H.1.2.2.2.2.1
  · rw [setI_n (by (try unfold kI); omega)]; exact H.1.2.2.2.2.2.1
  · rw [setI_n (by (try unfold kI); omega)]; exact H.1.2.2.2.2.2.2.1
  · rw [setI_n (by (try unfold kI); omega)]; exact H.1.2.2.2.2.2.2.2
  · rw [setI_n (by (try unfold kI); omega)]; exact (H.2.1 k' hk').1
  · rw [setI_n (by (try unfold kI); omega)]; exact (H.2.1 k' hk').2.1
  · rw [setI_n (by (try unfold kI); omega)]; exact (H.2.1 k' hk').2.2.1
  · rw [setI_n (by (try unfold kI); omega)]; exact (H.2.1 k' hk').2.2.2 p' hp'
  · rw [setI_n (by (try unfold kI); omega)]; exact H.2.2.1 l' hl' p' hp'
  · rw [setI_n (by (try unfold kI); omega)]; exact H.2.2.2.1 p' hp' d' hd'
  · rw [setI_n (by (try unfold kI); omega)]; exact H.2.2.2.2.1
  · rw [setI_n (by (try unfold kI); omega)]; exact H.2.2.2.2.2
theorem m_sDp {σ : St} {S : HS} (H : HM σ S) (v : Nat) : HM (setI σ 93 4 (nI v)) (sDp S v) := by
  refine ⟨⟨?_, ?_, ?_, ?_, ?_, ?_, ?_⟩, fun k' hk' => ⟨?_, ?_, ?_⟩, fun k' hk' p' hp' => ?_, fun l' hl' => ?_, fun l' hl' p' hp' => ?_⟩
  · rw [setI_n (by (try unfold kI); omega)]; exact H.1.1
  · rw [setI_s]; rfl
  · rw [setI_n (by (try unfold kI); omega)]; exact H.1.2.2.1
  · rw [setI_n (by (try unfold kI); omega)]; exact H.1.2.2.2.1
  · rw [setI_n (by (try unfold kI); omega)]; exact H.1.2.2.2.2.1
  · rw [setI_n (by (try unfold kI); omega)]; exact H.1.2.2.2.2.2.1
  · rw [setI_n (by (try unfold kI); omega)]; exact H.1.2.2.2.2.2.2
  · rw [setI_n (by (try unfold kI); omega)]; exact (H.2.1 k' hk').1
  · rw [setI_n (by (try unfold kI); omega)]; exact (H.2.1 k' hk').2.1
  · rw [setI_n (by (try unfold kI); omega)]; exact (H.2.1 k' hk').2.2
  · rw [setI_n (by (try unfold kI); omega)]; exact H.2.2.1 k' hk' p' hp'
  · rw [setI_n (by (try unfold kI); omega)]; exact H.2.2.2.1 l' hl'
  · rw [setI_n (by (try unfold kI); omega)]; exact H.2.2.2.2 l' hl' p' hp'
def sTg (S : HS) (v : Nat) : HS := (pl S, dp S, v, nk S, nl S, co S, se S, ki S, ow S, my S, cu S, wa S, as S)
theorem c_sTg {σ : St} {h : Nat} {S : HS} (H : HC σ h S) (v : Nat) : HC (setI σ h 2 (nI v)) h (sTg S v) := by
  refine ⟨⟨?_, ?_, ?_, ?_, ?_, ?_, ?_, ?_⟩, fun k' hk' => ⟨?_, ?_, ?_, fun p' hp' => ?_⟩, fun l' hl' p' hp' => ?_, fun p' hp' d' hd' => ?_, ?_, ?_⟩
  · rw [setI_n (by (try unfold kI); omega)]; exact H.1.1
  · rw [setI_n (by (try unfold kI); omega)]; exact H.1.2.1
  · rw [setI_s]; rfl
  · rw [setI_n (by (try unfold kI); omega)]; exact H.1.2.2.2.1
  · rw [setI_n (by (try unfold kI); omega)]; exact H.1.2.2.2.2.1
  · rw [setI_n (by (try unfold kI); omega)]; exact H.1.2.2.2.2.2.1
  · rw [setI_n (by (try unfold kI); omega)]; exact H.1.2.2.2.2.2.2.1
  · rw [setI_n (by (try unfold kI); omega)]; exact H.1.2.2.2.2.2.2.2
  · rw [setI_n (by (try unfold kI); omega)]; exact (H.2.1 k' hk').1
  · rw [setI_n (by (try unfold kI); omega)]; exact (H.2.1 k' hk').2.1
  · rw [setI_n (by (try unfold kI); omega)]; exact (H.2.1 k' hk').2.2.1
  · rw [setI_n (by (try unfold kI); omega)]; exact (H.2.1 k' hk').2.2.2 p' hp'
  · rw [setI_n (by (try unfold kI); omega)]; exact H.2.2.1 l' hl' p' hp'
  · rw [setI_n (by (try unfold kI); omega)]; exact H.2.2.2.1 p' hp' d' hd'
  · rw [setI_n (by (try unfold kI); omega)]; exact H.2.2.2.2.1
  · rw [setI_n (by (try unfold kI); omega)]; exact H.2.2.2.2.2
theorem m_sTg {σ : St} {S : HS} (H : HM σ S) (v : Nat) : HM (setI σ 93 5 (nI v)) (sTg S v) := by
  refine ⟨⟨?_, ?_, ?_, ?_, ?_, ?_, ?_⟩, fun k' hk' => ⟨?_, ?_, ?_⟩, fun k' hk' p' hp' => ?_, fun l' hl' => ?_, fun l' hl' p' hp' => ?_⟩
  · rw [setI_n (by (try unfold kI); omega)]; exact H.1.1
  · rw [setI_n (by (try unfold kI); omega)]; exact H.1.2.1
  · rw [setI_s]; rfl
  · rw [setI_n (by (try unfold kI); omega)]; exact H.1.2.2.2.1
  · rw [setI_n (by (try unfold kI); omega)]; exact H.1.2.2.2.2.1
  · rw [setI_n (by (try unfold kI); omega)]; exact H.1.2.2.2.2.2.1
  · rw [setI_n (by (try unfold kI); omega)]; exact H.1.2.2.2.2.2.2
  · rw [setI_n (by (try unfold kI); omega)]; exact (H.2.1 k' hk').1
  · rw [setI_n (by (try unfold kI); omega)]; exact (H.2.1 k' hk').2.1
  · rw [setI_n (by (try unfold kI); omega)]; exact (H.2.1 k' hk').2.2
  · rw [setI_n (by (try unfold kI); omega)]; exact H.2.2.1 k' hk' p' hp'
  · rw [setI_n (by (try unfold kI); omega)]; exact H.2.2.2.1 l' hl'
  · rw [setI_n (by (try unfold kI); omega)]; exact H.2.2.2.2 l' hl' p' hp'
def sCo (S : HS) (v : Int32) : HS := (pl S, dp S, tg S, nk S, nl S, v, se S, ki S, ow S, my S, cu S, wa S, as S)
theorem c_sCo {σ : St} {h : Nat} {S : HS} (H : HC σ h S) (v : Int32) : HC (setI σ h 3 (v)) h (sCo S v) := by
  refine ⟨⟨?_, ?_, ?_, ?_, ?_, ?_, ?_, ?_⟩, fun k' hk' => ⟨?_, ?_, ?_, fun p' hp' => ?_⟩, fun l' hl' p' hp' => ?_, fun p' hp' d' hd' => ?_, ?_, ?_⟩
  · rw [setI_n (by (try unfold kI); omega)]; exact H.1.1
  · rw [setI_n (by (try unfold kI); omega)]; exact H.1.2.1
  · rw [setI_n (by (try unfold kI); omega)]; exact H.1.2.2.1
  · rw [setI_s]; rfl
  · rw [setI_n (by (try unfold kI); omega)]; exact H.1.2.2.2.2.1
  · rw [setI_n (by (try unfold kI); omega)]; exact H.1.2.2.2.2.2.1
  · rw [setI_n (by (try unfold kI); omega)]; exact H.1.2.2.2.2.2.2.1
  · rw [setI_n (by (try unfold kI); omega)]; exact H.1.2.2.2.2.2.2.2
  · rw [setI_n (by (try unfold kI); omega)]; exact (H.2.1 k' hk').1
  · rw [setI_n (by (try unfold kI); omega)]; exact (H.2.1 k' hk').2.1
  · rw [setI_n (by (try unfold kI); omega)]; exact (H.2.1 k' hk').2.2.1
  · rw [setI_n (by (try unfold kI); omega)]; exact (H.2.1 k' hk').2.2.2 p' hp'
  · rw [setI_n (by (try unfold kI); omega)]; exact H.2.2.1 l' hl' p' hp'
  · rw [setI_n (by (try unfold kI); omega)]; exact H.2.2.2.1 p' hp' d' hd'
  · rw [setI_n (by (try unfold kI); omega)]; exact H.2.2.2.2.1
  · rw [setI_n (by (try unfold kI); omega)]; exact H.2.2.2.2.2
theorem m_sCo {σ : St} {S : HS} (H : HM σ S) (v : Int32) : HM (setI σ 93 14 (v)) (sCo S v) := by
  refine ⟨⟨?_, ?_, ?_, ?_, ?_, ?_, ?_⟩, fun k' hk' => ⟨?_, ?_, ?_⟩, fun k' hk' p' hp' => ?_, fun l' hl' => ?_, fun l' hl' p' hp' => ?_⟩
  · rw [setI_n (by (try unfold kI); omega)]; exact H.1.1
  · rw [setI_n (by (try unfold kI); omega)]; exact H.1.2.1
  · rw [setI_n (by (try unfold kI); omega)]; exact H.1.2.2.1
  · rw [setI_n (by (try unfold kI); omega)]; exact H.1.2.2.2.1
  · rw [setI_n (by (try unfold kI); omega)]; exact H.1.2.2.2.2.1
  · rw [setI_s]; rfl
  · rw [setI_n (by (try unfold kI); omega)]; exact H.1.2.2.2.2.2.2
  · rw [setI_n (by (try unfold kI); omega)]; exact (H.2.1 k' hk').1
  · rw [setI_n (by (try unfold kI); omega)]; exact (H.2.1 k' hk').2.1
  · rw [setI_n (by (try unfold kI); omega)]; exact (H.2.1 k' hk').2.2
  · rw [setI_n (by (try unfold kI); omega)]; exact H.2.2.1 k' hk' p' hp'
  · rw [setI_n (by (try unfold kI); omega)]; exact H.2.2.2.1 l' hl'
  · rw [setI_n (by (try unfold kI); omega)]; exact H.2.2.2.2 l' hl' p' hp'
def sSe (S : HS) (v : Int32) : HS := (pl S, dp S, tg S, nk S, nl S, co S, v, ki S, ow S, my S, cu S, wa S, as S)
theorem c_sSe {σ : St} {h : Nat} {S : HS} (H : HC σ h S) (v : Int32) : HC (setI σ h 4 (v)) h (sSe S v) := by
  refine ⟨⟨?_, ?_, ?_, ?_, ?_, ?_, ?_, ?_⟩, fun k' hk' => ⟨?_, ?_, ?_, fun p' hp' => ?_⟩, fun l' hl' p' hp' => ?_, fun p' hp' d' hd' => ?_, ?_, ?_⟩
  · rw [setI_n (by (try unfold kI); omega)]; exact H.1.1
  · rw [setI_n (by (try unfold kI); omega)]; exact H.1.2.1
  · rw [setI_n (by (try unfold kI); omega)]; exact H.1.2.2.1
  · rw [setI_n (by (try unfold kI); omega)]; exact H.1.2.2.2.1
  · rw [setI_s]; rfl
  · rw [setI_n (by (try unfold kI); omega)]; exact H.1.2.2.2.2.2.1
  · rw [setI_n (by (try unfold kI); omega)]; exact H.1.2.2.2.2.2.2.1
  · rw [setI_n (by (try unfold kI); omega)]; exact H.1.2.2.2.2.2.2.2
  · rw [setI_n (by (try unfold kI); omega)]; exact (H.2.1 k' hk').1
  · rw [setI_n (by (try unfold kI); omega)]; exact (H.2.1 k' hk').2.1
  · rw [setI_n (by (try unfold kI); omega)]; exact (H.2.1 k' hk').2.2.1
  · rw [setI_n (by (try unfold kI); omega)]; exact (H.2.1 k' hk').2.2.2 p' hp'
  · rw [setI_n (by (try unfold kI); omega)]; exact H.2.2.1 l' hl' p' hp'
  · rw [setI_n (by (try unfold kI); omega)]; exact H.2.2.2.1 p' hp' d' hd'
  · rw [setI_n (by (try unfold kI); omega)]; exact H.2.2.2.2.1
  · rw [setI_n (by (try unfold kI); omega)]; exact H.2.2.2.2.2
theorem m_sSe {σ : St} {S : HS} (H : HM σ S) (v : Int32) : HM (setI σ 93 15 (v)) (sSe S v) := by
  refine ⟨⟨?_, ?_, ?_, ?_, ?_, ?_, ?_⟩, fun k' hk' => ⟨?_, ?_, ?_⟩, fun k' hk' p' hp' => ?_, fun l' hl' => ?_, fun l' hl' p' hp' => ?_⟩
  · rw [setI_n (by (try unfold kI); omega)]; exact H.1.1
  · rw [setI_n (by (try unfold kI); omega)]; exact H.1.2.1
  · rw [setI_n (by (try unfold kI); omega)]; exact H.1.2.2.1
  · rw [setI_n (by (try unfold kI); omega)]; exact H.1.2.2.2.1
  · rw [setI_n (by (try unfold kI); omega)]; exact H.1.2.2.2.2.1
  · rw [setI_n (by (try unfold kI); omega)]; exact H.1.2.2.2.2.2.1
  · rw [setI_s]; rfl
  · rw [setI_n (by (try unfold kI); omega)]; exact (H.2.1 k' hk').1
  · rw [setI_n (by (try unfold kI); omega)]; exact (H.2.1 k' hk').2.1
  · rw [setI_n (by (try unfold kI); omega)]; exact (H.2.1 k' hk').2.2
  · rw [setI_n (by (try unfold kI); omega)]; exact H.2.2.1 k' hk' p' hp'
  · rw [setI_n (by (try unfold kI); omega)]; exact H.2.2.2.1 l' hl'
  · rw [setI_n (by (try unfold kI); omega)]; exact H.2.2.2.2 l' hl' p' hp'
def sNk (S : HS) (v : Nat) : HS := (pl S, dp S, tg S, v, nl S, co S, se S, ki S, ow S, my S, cu S, wa S, as S)
theorem c_sNk {σ : St} {h : Nat} {S : HS} (H : HC σ h S) (v : Nat) : HC (setI σ h 5 (nI v)) h (sNk S v) := by
  refine ⟨⟨?_, ?_, ?_, ?_, ?_, ?_, ?_, ?_⟩, fun k' hk' => ⟨?_, ?_, ?_, fun p' hp' => ?_⟩, fun l' hl' p' hp' => ?_, fun p' hp' d' hd' => ?_, ?_, ?_⟩
  · rw [setI_n (by (try unfold kI); omega)]; exact H.1.1
  · rw [setI_n (by (try unfold kI); omega)]; exact H.1.2.1
  · rw [setI_n (by (try unfold kI); omega)]; exact H.1.2.2.1
  · rw [setI_n (by (try unfold kI); omega)]; exact H.1.2.2.2.1
  · rw [setI_n (by (try unfold kI); omega)]; exact H.1.2.2.2.2.1
  · rw [setI_s]; rfl
  · rw [setI_n (by (try unfold kI); omega)]; exact H.1.2.2.2.2.2.2.1
  · rw [setI_n (by (try unfold kI); omega)]; exact H.1.2.2.2.2.2.2.2
  · rw [setI_n (by (try unfold kI); omega)]; exact (H.2.1 k' hk').1
  · rw [setI_n (by (try unfold kI); omega)]; exact (H.2.1 k' hk').2.1
  · rw [setI_n (by (try unfold kI); omega)]; exact (H.2.1 k' hk').2.2.1
  · rw [setI_n (by (try unfold kI); omega)]; exact (H.2.1 k' hk').2.2.2 p' hp'
  · rw [setI_n (by (try unfold kI); omega)]; exact H.2.2.1 l' hl' p' hp'
  · rw [setI_n (by (try unfold kI); omega)]; exact H.2.2.2.1 p' hp' d' hd'
  · rw [setI_n (by (try unfold kI); omega)]; exact H.2.2.2.2.1
  · rw [setI_n (by (try unfold kI); omega)]; exact H.2.2.2.2.2
theorem m_sNk {σ : St} {S : HS} (H : HM σ S) (v : Nat) : HM (setI σ 93 6 (nI v)) (sNk S v) := by
  refine ⟨⟨?_, ?_, ?_, ?_, ?_, ?_, ?_⟩, fun k' hk' => ⟨?_, ?_, ?_⟩, fun k' hk' p' hp' => ?_, fun l' hl' => ?_, fun l' hl' p' hp' => ?_⟩
  · rw [setI_n (by (try unfold kI); omega)]; exact H.1.1
  · rw [setI_n (by (try unfold kI); omega)]; exact H.1.2.1
  · rw [setI_n (by (try unfold kI); omega)]; exact H.1.2.2.1
  · rw [setI_s]; rfl
  · rw [setI_n (by (try unfold kI); omega)]; exact H.1.2.2.2.2.1
  · rw [setI_n (by (try unfold kI); omega)]; exact H.1.2.2.2.2.2.1
  · rw [setI_n (by (try unfold kI); omega)]; exact H.1.2.2.2.2.2.2
  · rw [setI_n (by (try unfold kI); omega)]; exact (H.2.1 k' hk').1
  · rw [setI_n (by (try unfold kI); omega)]; exact (H.2.1 k' hk').2.1
  · rw [setI_n (by (try unfold kI); omega)]; exact (H.2.1 k' hk').2.2
  · rw [setI_n (by (try unfold kI); omega)]; exact H.2.2.1 k' hk' p' hp'
  · rw [setI_n (by (try unfold kI); omega)]; exact H.2.2.2.1 l' hl'
  · rw [setI_n (by (try unfold kI); omega)]; exact H.2.2.2.2 l' hl' p' hp'
def sKi (S : HS) (k v : Nat) : HS := (pl S, dp S, tg S, nk S, nl S, co S, se S, fun j => if j = k then v else ki S j, ow S, my S, cu S, wa S, as S)
theorem c_sKi {σ : St} {h : Nat} {S : HS} (H : HC σ h S) (k v : Nat) (hk : k < 6) : HC (setI σ (kI h k) 0 (nI v)) h (sKi S k v) := by
  refine ⟨⟨?_, ?_, ?_, ?_, ?_, ?_, ?_, ?_⟩, fun k' hk' => ⟨?_, ?_, ?_, fun p' hp' => ?_⟩, fun l' hl' p' hp' => ?_, fun p' hp' d' hd' => ?_, ?_, ?_⟩
  · rw [setI_n (by (try unfold kI); omega)]; exact H.1.1
  · rw [setI_n (by (try unfold kI); omega)]; exact H.1.2.1
  · rw [setI_n (by (try unfold kI); omega)]; exact H.1.2.2.1
  · rw [setI_n (by (try unfold kI); omega)]; exact H.1.2.2.2.1
  · rw [setI_n (by (try unfold kI); omega)]; exact H.1.2.2.2.2.1
  · rw [setI_n (by (try unfold kI); omega)]; exact H.1.2.2.2.2.2.1
  · rw [setI_n (by (try unfold kI); omega)]; exact H.1.2.2.2.2.2.2.1
  · rw [setI_n (by (try unfold kI); omega)]; exact H.1.2.2.2.2.2.2.2
  · by_cases e : k' = k
    · subst e; rw [setI_s]; show _ = nI (if k' = k' then v else ki S k'); rw [if_pos rfl]
    · rw [setI_n (by (try unfold kI); omega)]; show _ = nI (if k' = k then v else ki S k'); rw [if_neg e]; exact (H.2.1 k' hk').1
  · rw [setI_n (by (try unfold kI); omega)]; exact (H.2.1 k' hk').2.1
  · rw [setI_n (by (try unfold kI); omega)]; exact (H.2.1 k' hk').2.2.1
  · rw [setI_n (by (try unfold kI); omega)]; exact (H.2.1 k' hk').2.2.2 p' hp'
  · rw [setI_n (by (try unfold kI); omega)]; exact H.2.2.1 l' hl' p' hp'
  · rw [setI_n (by (try unfold kI); omega)]; exact H.2.2.2.1 p' hp' d' hd'
  · rw [setI_n (by (try unfold kI); omega)]; exact H.2.2.2.2.1
  · rw [setI_n (by (try unfold kI); omega)]; exact H.2.2.2.2.2
theorem m_sKi {σ : St} {S : HS} (H : HM σ S) (k v : Nat) : HM (setI σ 97 k (nI v)) (sKi S k v) := by
  refine ⟨⟨?_, ?_, ?_, ?_, ?_, ?_, ?_⟩, fun k' hk' => ⟨?_, ?_, ?_⟩, fun k' hk' p' hp' => ?_, fun l' hl' => ?_, fun l' hl' p' hp' => ?_⟩
  · rw [setI_n (by (try unfold kI); omega)]; exact H.1.1
  · rw [setI_n (by (try unfold kI); omega)]; exact H.1.2.1
  · rw [setI_n (by (try unfold kI); omega)]; exact H.1.2.2.1
  · rw [setI_n (by (try unfold kI); omega)]; exact H.1.2.2.2.1
  · rw [setI_n (by (try unfold kI); omega)]; exact H.1.2.2.2.2.1
  · rw [setI_n (by (try unfold kI); omega)]; exact H.1.2.2.2.2.2.1
  · rw [setI_n (by (try unfold kI); omega)]; exact H.1.2.2.2.2.2.2
  · by_cases e : k' = k
    · subst e; rw [setI_s]; show _ = nI (if k' = k' then v else ki S k'); rw [if_pos rfl]
    · rw [setI_n (by (try unfold kI); omega)]; show _ = nI (if k' = k then v else ki S k'); rw [if_neg e]; exact (H.2.1 k' hk').1
  · rw [setI_n (by (try unfold kI); omega)]; exact (H.2.1 k' hk').2.1
  · rw [setI_n (by (try unfold kI); omega)]; exact (H.2.1 k' hk').2.2
  · rw [setI_n (by (try unfold kI); omega)]; exact H.2.2.1 k' hk' p' hp'
  · rw [setI_n (by (try unfold kI); omega)]; exact H.2.2.2.1 l' hl'
  · rw [setI_n (by (try unfold kI); omega)]; exact H.2.2.2.2 l' hl' p' hp'
def sOw (S : HS) (k v : Nat) : HS := (pl S, dp S, tg S, nk S, nl S, co S, se S, ki S, fun j => if j = k then v else ow S j, my S, cu S, wa S, as S)
theorem c_sOw {σ : St} {h : Nat} {S : HS} (H : HC σ h S) (k v : Nat) (hk : k < 6) : HC (setI σ (kI h k) 1 (nI v)) h (sOw S k v) := by
  refine ⟨⟨?_, ?_, ?_, ?_, ?_, ?_, ?_, ?_⟩, fun k' hk' => ⟨?_, ?_, ?_, fun p' hp' => ?_⟩, fun l' hl' p' hp' => ?_, fun p' hp' d' hd' => ?_, ?_, ?_⟩
  · rw [setI_n (by (try unfold kI); omega)]; exact H.1.1
  · rw [setI_n (by (try unfold kI); omega)]; exact H.1.2.1
  · rw [setI_n (by (try unfold kI); omega)]; exact H.1.2.2.1
  · rw [setI_n (by (try unfold kI); omega)]; exact H.1.2.2.2.1
  · rw [setI_n (by (try unfold kI); omega)]; exact H.1.2.2.2.2.1
  · rw [setI_n (by (try unfold kI); omega)]; exact H.1.2.2.2.2.2.1
  · rw [setI_n (by (try unfold kI); omega)]; exact H.1.2.2.2.2.2.2.1
  · rw [setI_n (by (try unfold kI); omega)]; exact H.1.2.2.2.2.2.2.2
  · rw [setI_n (by (try unfold kI); omega)]; exact (H.2.1 k' hk').1
  · by_cases e : k' = k
    · subst e; rw [setI_s]; show _ = nI (if k' = k' then v else ow S k'); rw [if_pos rfl]
    · rw [setI_n (by (try unfold kI); omega)]; show _ = nI (if k' = k then v else ow S k'); rw [if_neg e]; exact (H.2.1 k' hk').2.1
  · rw [setI_n (by (try unfold kI); omega)]; exact (H.2.1 k' hk').2.2.1
  · rw [setI_n (by (try unfold kI); omega)]; exact (H.2.1 k' hk').2.2.2 p' hp'
  · rw [setI_n (by (try unfold kI); omega)]; exact H.2.2.1 l' hl' p' hp'
  · rw [setI_n (by (try unfold kI); omega)]; exact H.2.2.2.1 p' hp' d' hd'
  · rw [setI_n (by (try unfold kI); omega)]; exact H.2.2.2.2.1
  · rw [setI_n (by (try unfold kI); omega)]; exact H.2.2.2.2.2
theorem m_sOw {σ : St} {S : HS} (H : HM σ S) (k v : Nat) : HM (setI σ 98 k (nI v)) (sOw S k v) := by
  refine ⟨⟨?_, ?_, ?_, ?_, ?_, ?_, ?_⟩, fun k' hk' => ⟨?_, ?_, ?_⟩, fun k' hk' p' hp' => ?_, fun l' hl' => ?_, fun l' hl' p' hp' => ?_⟩
  · rw [setI_n (by (try unfold kI); omega)]; exact H.1.1
  · rw [setI_n (by (try unfold kI); omega)]; exact H.1.2.1
  · rw [setI_n (by (try unfold kI); omega)]; exact H.1.2.2.1
  · rw [setI_n (by (try unfold kI); omega)]; exact H.1.2.2.2.1
  · rw [setI_n (by (try unfold kI); omega)]; exact H.1.2.2.2.2.1
  · rw [setI_n (by (try unfold kI); omega)]; exact H.1.2.2.2.2.2.1
  · rw [setI_n (by (try unfold kI); omega)]; exact H.1.2.2.2.2.2.2
  · rw [setI_n (by (try unfold kI); omega)]; exact (H.2.1 k' hk').1
  · by_cases e : k' = k
    · subst e; rw [setI_s]; show _ = nI (if k' = k' then v else ow S k'); rw [if_pos rfl]
    · rw [setI_n (by (try unfold kI); omega)]; show _ = nI (if k' = k then v else ow S k'); rw [if_neg e]; exact (H.2.1 k' hk').2.1
  · rw [setI_n (by (try unfold kI); omega)]; exact (H.2.1 k' hk').2.2
  · rw [setI_n (by (try unfold kI); omega)]; exact H.2.2.1 k' hk' p' hp'
  · rw [setI_n (by (try unfold kI); omega)]; exact H.2.2.2.1 l' hl'
  · rw [setI_n (by (try unfold kI); omega)]; exact H.2.2.2.2 l' hl' p' hp'
def sMy (S : HS) (k : Nat) (v : Int32) : HS := (pl S, dp S, tg S, nk S, nl S, co S, se S, ki S, ow S, fun j => if j = k then v else my S j, cu S, wa S, as S)
theorem c_sMy {σ : St} {h : Nat} {S : HS} (H : HC σ h S) (k : Nat) (v : Int32) : HC (setI σ (kI h k) 2 (v)) h (sMy S k v) := by
  refine ⟨⟨?_, ?_, ?_, ?_, ?_, ?_, ?_, ?_⟩, fun k' hk' => ⟨?_, ?_, ?_, fun p' hp' => ?_⟩, fun l' hl' p' hp' => ?_, fun p' hp' d' hd' => ?_, ?_, ?_⟩
  · rw [setI_n (by (try unfold kI); omega)]; exact H.1.1
  · rw [setI_n (by (try unfold kI); omega)]; exact H.1.2.1
  · rw [setI_n (by (try unfold kI); omega)]; exact H.1.2.2.1
  · rw [setI_n (by (try unfold kI); omega)]; exact H.1.2.2.2.1
  · rw [setI_n (by (try unfold kI); omega)]; exact H.1.2.2.2.2.1
  · rw [setI_n (by (try unfold kI); omega)]; exact H.1.2.2.2.2.2.1
  · rw [setI_n (by (try unfold kI); omega)]; exact H.1.2.2.2.2.2.2.1
  · rw [setI_n (by (try unfold kI); omega)]; exact H.1.2.2.2.2.2.2.2
  · rw [setI_n (by (try unfold kI); omega)]; exact (H.2.1 k' hk').1
  · rw [setI_n (by (try unfold kI); omega)]; exact (H.2.1 k' hk').2.1
  · by_cases e : k' = k
    · subst e; rw [setI_s]; show _ = (if k' = k' then v else my S k'); rw [if_pos rfl]
    · rw [setI_n (by (try unfold kI); omega)]; show _ = (if k' = k then v else my S k'); rw [if_neg e]; exact (H.2.1 k' hk').2.2.1
  · rw [setI_n (by (try unfold kI); omega)]; exact (H.2.1 k' hk').2.2.2 p' hp'
  · rw [setI_n (by (try unfold kI); omega)]; exact H.2.2.1 l' hl' p' hp'
  · rw [setI_n (by (try unfold kI); omega)]; exact H.2.2.2.1 p' hp' d' hd'
  · rw [setI_n (by (try unfold kI); omega)]; exact H.2.2.2.2.1
  · rw [setI_n (by (try unfold kI); omega)]; exact H.2.2.2.2.2
theorem m_sMy {σ : St} {S : HS} (H : HM σ S) (k : Nat) (v : Int32) : HM (setI σ 99 k (v)) (sMy S k v) := by
  refine ⟨⟨?_, ?_, ?_, ?_, ?_, ?_, ?_⟩, fun k' hk' => ⟨?_, ?_, ?_⟩, fun k' hk' p' hp' => ?_, fun l' hl' => ?_, fun l' hl' p' hp' => ?_⟩
  · rw [setI_n (by (try unfold kI); omega)]; exact H.1.1
  · rw [setI_n (by (try unfold kI); omega)]; exact H.1.2.1
  · rw [setI_n (by (try unfold kI); omega)]; exact H.1.2.2.1
  · rw [setI_n (by (try unfold kI); omega)]; exact H.1.2.2.2.1
  · rw [setI_n (by (try unfold kI); omega)]; exact H.1.2.2.2.2.1
  · rw [setI_n (by (try unfold kI); omega)]; exact H.1.2.2.2.2.2.1
  · rw [setI_n (by (try unfold kI); omega)]; exact H.1.2.2.2.2.2.2
  · rw [setI_n (by (try unfold kI); omega)]; exact (H.2.1 k' hk').1
  · rw [setI_n (by (try unfold kI); omega)]; exact (H.2.1 k' hk').2.1
  · by_cases e : k' = k
    · subst e; rw [setI_s]; show _ = (if k' = k' then v else my S k'); rw [if_pos rfl]
    · rw [setI_n (by (try unfold kI); omega)]; show _ = (if k' = k then v else my S k'); rw [if_neg e]; exact (H.2.1 k' hk').2.2
  · rw [setI_n (by (try unfold kI); omega)]; exact H.2.2.1 k' hk' p' hp'
  · rw [setI_n (by (try unfold kI); omega)]; exact H.2.2.2.1 l' hl'
  · rw [setI_n (by (try unfold kI); omega)]; exact H.2.2.2.2 l' hl' p' hp'
def sCu (S : HS) (k p v : Nat) : HS := (pl S, dp S, tg S, nk S, nl S, co S, se S, ki S, ow S, my S, fun j i => if j = k ∧ i = p then v else cu S j i, wa S, as S)
theorem c_sCu {σ : St} {h : Nat} {S : HS} (H : HC σ h S) (k p v : Nat) : HC (setI σ (kI h k + 1) p (nI v)) h (sCu S k p v) := by
  refine ⟨⟨?_, ?_, ?_, ?_, ?_, ?_, ?_, ?_⟩, fun k' hk' => ⟨?_, ?_, ?_, fun p' hp' => ?_⟩, fun l' hl' p' hp' => ?_, fun p' hp' d' hd' => ?_, ?_, ?_⟩
  · rw [setI_n (by (try unfold kI); omega)]; exact H.1.1
  · rw [setI_n (by (try unfold kI); omega)]; exact H.1.2.1
  · rw [setI_n (by (try unfold kI); omega)]; exact H.1.2.2.1
  · rw [setI_n (by (try unfold kI); omega)]; exact H.1.2.2.2.1
  · rw [setI_n (by (try unfold kI); omega)]; exact H.1.2.2.2.2.1
  · rw [setI_n (by (try unfold kI); omega)]; exact H.1.2.2.2.2.2.1
  · rw [setI_n (by (try unfold kI); omega)]; exact H.1.2.2.2.2.2.2.1
  · rw [setI_n (by (try unfold kI); omega)]; exact H.1.2.2.2.2.2.2.2
  · rw [setI_n (by (try unfold kI); omega)]; exact (H.2.1 k' hk').1
  · rw [setI_n (by (try unfold kI); omega)]; exact (H.2.1 k' hk').2.1
  · rw [setI_n (by (try unfold kI); omega)]; exact (H.2.1 k' hk').2.2.1
  · by_cases e : k' = k ∧ p' = p
    · rw [e.1, e.2, setI_s]; show _ = nI (if k = k ∧ p = p then v else cu S k p); rw [if_pos ⟨rfl, rfl⟩]
    · rw [setI_n (by (try unfold kI); omega)]; show _ = nI (if k' = k ∧ p' = p then v else cu S k' p'); rw [if_neg e]; exact (H.2.1 k' hk').2.2.2 p' hp'
  · rw [setI_n (by (try unfold kI); omega)]; exact H.2.2.1 l' hl' p' hp'
  · rw [setI_n (by (try unfold kI); omega)]; exact H.2.2.2.1 p' hp' d' hd'
  · rw [setI_n (by (try unfold kI); omega)]; exact H.2.2.2.2.1
  · rw [setI_n (by (try unfold kI); omega)]; exact H.2.2.2.2.2
theorem m_sCu {σ : St} {S : HS} (H : HM σ S) (k p v : Nat) (hp : p < 5) : HM (setI σ 100 (5 * k + p) (nI v)) (sCu S k p v) := by
  refine ⟨⟨?_, ?_, ?_, ?_, ?_, ?_, ?_⟩, fun k' hk' => ⟨?_, ?_, ?_⟩, fun k' hk' p' hp' => ?_, fun l' hl' => ?_, fun l' hl' p' hp' => ?_⟩
  · rw [setI_n (by (try unfold kI); omega)]; exact H.1.1
  · rw [setI_n (by (try unfold kI); omega)]; exact H.1.2.1
  · rw [setI_n (by (try unfold kI); omega)]; exact H.1.2.2.1
  · rw [setI_n (by (try unfold kI); omega)]; exact H.1.2.2.2.1
  · rw [setI_n (by (try unfold kI); omega)]; exact H.1.2.2.2.2.1
  · rw [setI_n (by (try unfold kI); omega)]; exact H.1.2.2.2.2.2.1
  · rw [setI_n (by (try unfold kI); omega)]; exact H.1.2.2.2.2.2.2
  · rw [setI_n (by (try unfold kI); omega)]; exact (H.2.1 k' hk').1
  · rw [setI_n (by (try unfold kI); omega)]; exact (H.2.1 k' hk').2.1
  · rw [setI_n (by (try unfold kI); omega)]; exact (H.2.1 k' hk').2.2
  · by_cases e : k' = k ∧ p' = p
    · rw [e.1, e.2, setI_s]; show _ = nI (if k = k ∧ p = p then v else cu S k p); rw [if_pos ⟨rfl, rfl⟩]
    · rw [setI_n (by (try unfold kI); omega)]; show _ = nI (if k' = k ∧ p' = p then v else cu S k' p'); rw [if_neg e]; exact H.2.2.1 k' hk' p' hp'
  · rw [setI_n (by (try unfold kI); omega)]; exact H.2.2.2.1 l' hl'
  · rw [setI_n (by (try unfold kI); omega)]; exact H.2.2.2.2 l' hl' p' hp'
