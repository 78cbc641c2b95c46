/-! settle -/
theorem LR0.same {V V1 : Sz} {w : Rw} (h : LR0 V w) (hk : ∀ k : Nat, k < 23 → V1 k = V k) : LR0 V1 w := by
  obtain ⟨h1, h2, h3, h4, h5, h6, h7⟩ := h
  unfold LR0 LRa LRd LRk LRg LRp LRo LRc at *
  rw [hk 0 (by decide), hk 1 (by decide), hk 2 (by decide), hk 3 (by decide), hk 4 (by decide), hk 5 (by decide), hk 6 (by decide), hk 7 (by decide), hk 8 (by decide), hk 9 (by decide), hk 10 (by decide), hk 11 (by decide), hk 12 (by decide), hk 13 (by decide), hk 14 (by decide), hk 15 (by decide), hk 16 (by decide), hk 18 (by decide), hk 19 (by decide), hk 20 (by decide), hk 21 (by decide), hk 22 (by decide)]
  exact ⟨h1, h2, h3, h4, h5, h6, h7⟩
/-- what settlePart leaves -/
def SetP (w : Rw) (q : Nat) (i : Int) (V : Sz) : Sz :=
  uz (uz (uz (uz V 23 (3 * ordS w q + i).toNat (openS w (3 * ordS w q + i))) 24 (3 * ordS w q + i).toNat (wishS w (3 * ordS w q + i))) 25 (3 * ordS w q + i).toNat (aidP w q (3 * ordS w q + i))) 26 (wPd w (3 * ordS w q + i)).toNat (usS w (wPd w (3 * ordS w q + i)) (yrS w (ordS w q)) (q + 1))
theorem c4_settlePart {V : Sz} {w : Rw} (h : LR0 V w) (hw : WF w) (h30 : w 1 ≤ 30) {n : Nat} (hn : 100 ≤ n) {q : Nat} (hq : (q : Int) < w 2) {i : Int} (i0 : 0 ≤ i) (i1 : i < wMany w (ordS w q)) (hu : V 26 (wPd w (3 * ordS w q + i)).toNat = usS w (wPd w (3 * ordS w q + i)) (yrS w (ordS w q)) q) : TT (f_X4_settlePart n V (ordS w q) (3 * ordS w q + i)) (fun V1 => V1 = SetP w q i V) := by
  have hg := ordS_in hq
  have hpt := part_of hw hg.1 hg.2 i0 i1
  have hpw := hw.2.2.2.2.2.1 _ i hg.1 hg.2 i0 i1
  have hgw := hw.2.2.2.2.1 _ hg.1 hg.2
  have hlw := hw.2.2.1 _ hpw.1 hpw.2.1
  have hpl := h.2.2.2.2.1 _ hpt.1.1 hpt.1.2 (part_B hw hg.1 hg.2 i0 i1)
  have hgl := h.2.2.2.1 _ hg.1 hg.2
  have hdl := h.2.1 _ hpw.1 hpw.2.1
  have a0 := hw.2.1.1
  have a2 := hw.2.1.2.2.1
  have hab := aidP_bd hw hq i0 i1
  have hwb := wishS_bd hw hg.1 hg.2 i0 i1
  have hob := openS_bd hw hg.1 hg.2 i0 i1
  have hub := usS_bd hw hpw.1 hpw.2.1 (yrS w (ordS w q)) (i := q) (by omega)
  have hnx := usS_next hw hq i0 i1
  have ea : min (wishS w (3 * ordS w q + i)) (wLim w (wPd w (3 * ordS w q + i)) - usS w (wPd w (3 * ordS w q + i)) (yrS w (ordS w q)) q) = aidP w q (3 * ordS w q + i) := by
    unfold aidP
    rw [hpt.2.1]
  have j68 : ∀ V6 : Sz, V6 = uz V 23 (3 * ordS w q + i).toNat (openS w (3 * ordS w q + i)) → TT (jX4_settlePart_68 n (ordS w q) (3 * ordS w q + i) (wPd w (3 * ordS w q + i)) V6 (wishS w (3 * ordS w q + i)) (3 * ordS w q + i)) (fun V1 => V1 = SetP w q i V) := by
    intro V6 e6
    unfold jX4_settlePart_68
    refine tt_ck ⟨hpt.1.1, hpt.1.2⟩ (tt_nmE (fun V10 e10 => tt_ck ⟨hpt.1.1, hpt.1.2⟩ (tt_ck ⟨hpw.1, by omega⟩ ?_)))
    have f24 : V10 24 (3 * ordS w q + i).toNat = wishS w (3 * ordS w q + i) := by rw [e10, uz_at, up_at]
    have f4 : V10 4 (wPd w (3 * ordS w q + i)).toNat = wLim w (wPd w (3 * ordS w q + i)) := by rw [e10, uz_ne (by decide), e6, uz_ne (by decide), hdl]
    have f26 : V10 26 (wPd w (3 * ordS w q + i)).toNat = usS w (wPd w (3 * ordS w q + i)) (yrS w (ordS w q)) q := by rw [e10, uz_ne (by decide), e6, uz_ne (by decide), hu]
    rw [f24, f4, f26, ea]
    refine tt_ck ⟨⟨by omega, by omega⟩, ⟨by omega, by omega⟩⟩ (tt_nmE (fun V14 e14 => tt_nmE (fun V15 e15 => tt_some ?_)))
    have g26 : V14 26 (wPd w (3 * ordS w q + i)).toNat = usS w (wPd w (3 * ordS w q + i)) (yrS w (ordS w q)) q := by rw [e14, uz_ne (by decide), f26]
    have g25 : V14 25 (3 * ordS w q + i).toNat = aidP w q (3 * ordS w q + i) := by rw [e14, uz_at, up_at]
    rw [g26, g25, ← hnx] at e15
    rw [e15, e14, e10, e6]; rfl
  have j32 : TT (jX4_settlePart_32 n (ordS w q) (3 * ordS w q + i) (wPd w (3 * ordS w q + i)) V (openS w (3 * ordS w q + i)) (3 * ordS w q + i)) (fun V1 => V1 = SetP w q i V) := by
    unfold jX4_settlePart_32
    refine tt_ck ⟨hpt.1.1, hpt.1.2⟩ (tt_nmE (fun V6 e6 => tt_ck ⟨hg.1, by omega⟩ ?_))
    have h6 : LR0 V6 w := h.same (fun k hk => by rw [e6, uz_ne (by omega)])
    have f10 : V6 10 (ordS w q).toNat = wDay w (ordS w q) := by rw [e6, uz_ne (by decide), hgl.1]
    have f23 : V6 23 (3 * ordS w q + i).toNat = openS w (3 * ordS w q + i) := by rw [e6, uz_at, up_at]
    rw [f10, c1_covers h6 hw h30 hn ⟨by omega, by omega⟩ ⟨by omega, by omega⟩, bd_s, f23]
    have hws : wishS w (3 * ordS w q + i) = if forB w (wPd w (3 * ordS w q + i)) (wDay w (ordS w q)) = true then openS w (3 * ordS w q + i) else 0 := by
      unfold wishS
      rw [hpt.2.1]
    have h68 := j68 V6 e6
    cases hb : forB w (wPd w (3 * ordS w q + i)) (wDay w (ordS w q)) with
    | false =>
      rw [hb, if_neg (by decide)] at hws
      rw [hws] at h68
      rw [if_pos rfl]
      exact h68
    | true =>
      rw [hb, if_pos rfl] at hws
      rw [hws] at h68
      rw [if_neg (by decide)]
      exact tt_ck ⟨hpt.1.1, hpt.1.2⟩ h68
  unfold f_X4_settlePart
  refine tt_ck ⟨hpt.1.1, hpt.1.2⟩ (tt_nm ?_)
  rw [hpl.1, c4_isSpoilt h hw hg.1 hg.2, bd_s]
  have hos : openS w (3 * ordS w q + i) = if spoB w (ordS w q) = true then 0 else fullS w (3 * ordS w q + i) := by
    unfold openS
    rw [hpt.2.1]
  cases hb : spoB w (ordS w q) with
  | false =>
    rw [hb, if_neg (by decide)] at hos
    rw [if_pos rfl, c4_fullAid h hw hg.1 hg.2 i0 i1, bd_s, ← hos]
    exact j32
  | true =>
    rw [hb, if_pos rfl] at hos
    rw [if_neg (by decide), ← hos]
    exact j32
